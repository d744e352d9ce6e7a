/-- KeyKeepersModel.vote(II)I -/
def f_196 (x0 : Int32) (x1 : Int32) (I : Nat → Nat → Int32) (L : Nat → Nat → Int64) : Int32 × (Nat → Nat → Int32) × (Nat → Nat → Int64) :=
  let q0 := f_182 (Int32.toInt64 x1) 0 1;
  if q0 = 0 then
    let q4 := f_179 (-1) (am_u I 66 0 0) L;
    (q4.1, q4.2.1, q4.2.2)
  else
    let q1 := f_192 x0 (am_u I 66 0 0);
    if q1 = 0 then
      let q2 := f_179 (-2) (am_u I 66 0 0) L;
      (q2.1, q2.2.1, q2.2.2)
    else
      let q3 := f_188 (50 + x0) x1 (am_u I 66 0 0) L;
      (q3.1, q3.2.1, q3.2.2)
def p_196 (x0 : Int32) (x1 : Int32) (I : Nat → Nat → Int32) (L : Nat → Nat → Int64) : Prop :=
  (let q0 := f_182 (Int32.toInt64 x1) 0 1;
    if q0 = 0 then
      p_179 (-1) (am_u I 66 0 0) L
    else
      p_192 x0 (am_u I 66 0 0) ∧
      (let q1 := f_192 x0 (am_u I 66 0 0);
        if q1 = 0 then
          p_179 (-2) (am_u I 66 0 0) L
        else
          p_188 (50 + x0) x1 (am_u I 66 0 0) L))
set_option maxRecDepth 100000 in
theorem s_196 {S : am_S} {d N : Nat} {T : Nat → Nat × Nat} {I : Nat → Nat → Int32} {L : Nat → Nat → Int64} {r : Nat → Nat → Option Nat} {Q : am_Q} {x0 : Int32} {x1 : Int32} (hp : p_196 x0 x1 I L) (hq : Q (some (.int (f_196 x0 x1 I L).1)) (N, am_ts T, (f_196 x0 x1 I L).2.1, (f_196 x0 x1 I L).2.2, am_rs r)) : am_E S 196 (d + 2) 0 0 0 [.ref 66, .int x0, .int x1] [] (N, am_ts T, I, L, am_rs r) Q := by
  unfold f_196 at hq
  unfold p_196 at hp
  try dsimp only at hq hp
  refine am_E.run [9] 2000 (show (am_E S 196 (d + 2) 0 0 9 [.ref 66, .int x0, .int x1] [.long 1, .long 0, .long (Int32.toInt64 x1)] (N, am_ts T, (am_u I 66 0 0), L, am_rs r) Q) from ?_)
  refine am_E.go ⟨fun v h9 => v = some (.int (f_182 (Int32.toInt64 x1) 0 1)) ∧ h9 = (N, am_ts T, (am_u I 66 0 0), L, am_rs r), s_182 ⟨rfl, rfl⟩, ?_⟩
  intro v h9 hv
  obtain ⟨rfl, rfl⟩ := hv
  generalize he_q0 : f_182 (Int32.toInt64 x1) 0 1 = q0 at hq hp ⊢
  refine am_E.run [17, 23] 2000 (show (if q0 = 0 then (am_E S 196 (d + 2) 0 0 17 [.ref 66, .int x0, .int x1] [.int (-1), .ref 66] (N, am_ts T, (am_u I 66 0 0), L, am_rs r) Q) else (am_E S 196 (d + 2) 0 0 23 [.ref 66, .int x0, .int x1] [.int x0, .ref 66] (N, am_ts T, (am_u I 66 0 0), L, am_rs r) Q)) from ?_)
  by_cases hc : q0 = 0
  · rw [if_pos hc] at hq hp ⊢
    refine am_E.go ⟨fun v h9 => v = some (.int (f_179 (-1) (am_u I 66 0 0) L).1) ∧ h9 = (N, am_ts T, (f_179 (-1) (am_u I 66 0 0) L).2.1, (f_179 (-1) (am_u I 66 0 0) L).2.2, am_rs r), s_179 hp ⟨rfl, rfl⟩, ?_⟩
    intro v h9 hv
    obtain ⟨rfl, rfl⟩ := hv
    generalize he_q4 : f_179 (-1) (am_u I 66 0 0) L = q4 at hq ⊢
    refine am_E.run [] 2000 (show (True ∧ Q (some (.int q4.1)) (N, am_ts T, q4.2.1, q4.2.2, am_rs r)) from ?_)
    exact ⟨trivial, hq⟩
  · rw [if_neg hc] at hq hp ⊢
    refine am_E.go ⟨fun v h9 => v = some (.int (f_192 x0 (am_u I 66 0 0))) ∧ h9 = (N, am_ts T, (am_u I 66 0 0), L, am_rs r), s_192 hp.1 ⟨rfl, rfl⟩, ?_⟩
    replace hp := hp.2
    intro v h9 hv
    obtain ⟨rfl, rfl⟩ := hv
    generalize he_q1 : f_192 x0 (am_u I 66 0 0) = q1 at hq hp ⊢
    refine am_E.run [35, 44] 2000 (show (if q1 = 0 then (am_E S 196 (d + 2) 0 0 44 [.ref 66, .int x0, .int x1] [.int (-2), .ref 66] (N, am_ts T, (am_u I 66 0 0), L, am_rs r) Q) else (am_E S 196 (d + 2) 0 0 35 [.ref 66, .int x0, .int x1] [.int x1, .int (50 + x0), .ref 66] (N, am_ts T, (am_u I 66 0 0), L, am_rs r) Q)) from ?_)
    by_cases hc : q1 = 0
    · rw [if_pos hc] at hq hp ⊢
      refine am_E.go ⟨fun v h9 => v = some (.int (f_179 (-2) (am_u I 66 0 0) L).1) ∧ h9 = (N, am_ts T, (f_179 (-2) (am_u I 66 0 0) L).2.1, (f_179 (-2) (am_u I 66 0 0) L).2.2, am_rs r), s_179 hp ⟨rfl, rfl⟩, ?_⟩
      intro v h9 hv
      obtain ⟨rfl, rfl⟩ := hv
      generalize he_q2 : f_179 (-2) (am_u I 66 0 0) L = q2 at hq ⊢
      refine am_E.run [] 2000 (show (True ∧ Q (some (.int q2.1)) (N, am_ts T, q2.2.1, q2.2.2, am_rs r)) from ?_)
      exact ⟨trivial, hq⟩
    · rw [if_neg hc] at hq hp ⊢
      refine am_E.go ⟨fun v h9 => v = some (.int (f_188 (50 + x0) x1 (am_u I 66 0 0) L).1) ∧ h9 = (N, am_ts T, (f_188 (50 + x0) x1 (am_u I 66 0 0) L).2.1, (f_188 (50 + x0) x1 (am_u I 66 0 0) L).2.2, am_rs r), s_188 hp ⟨rfl, rfl⟩, ?_⟩
      intro v h9 hv
      obtain ⟨rfl, rfl⟩ := hv
      generalize he_q3 : f_188 (50 + x0) x1 (am_u I 66 0 0) L = q3 at hq ⊢
      refine am_E.run [] 2000 (show (True ∧ Q (some (.int q3.1)) (N, am_ts T, q3.2.1, q3.2.2, am_rs r)) from ?_)
      exact ⟨trivial, hq⟩
/-- KeyKeepersModel.terms(II)I -/
def f_197 (x0 : Int32) (x1 : Int32) (I : Nat → Nat → Int32) (L : Nat → Nat → Int64) : Int32 × (Nat → Nat → Int32) × (Nat → Nat → Int64) :=
  if x0 = 0 then
    let q10 := f_182 (Int32.toInt64 x1) 0 9999;
    if q10 = 0 then
      let q12 := f_179 (-1) (am_u I 66 0 0) L;
      (q12.1, q12.2.1, q12.2.2)
    else
      let q11 := f_188 (5 + x0) x1 (am_u (am_u I 66 0 0) 66 8 0) L;
      (q11.1, q11.2.1, q11.2.2)
  else
    if x0 = 1 then
      let q7 := f_182 (Int32.toInt64 x1) 1 6;
      if q7 = 0 then
        let q9 := f_179 (-1) (am_u I 66 0 0) L;
        (q9.1, q9.2.1, q9.2.2)
      else
        let q8 := f_188 (5 + x0) x1 (am_u (am_u I 66 0 0) 66 8 0) L;
        (q8.1, q8.2.1, q8.2.2)
    else
      if x0 = 2 then
        let q4 := f_182 (Int32.toInt64 x1) 0 10;
        if q4 = 0 then
          let q6 := f_179 (-1) (am_u I 66 0 0) L;
          (q6.1, q6.2.1, q6.2.2)
        else
          let q5 := f_188 (5 + x0) x1 (am_u (am_u I 66 0 0) 66 8 0) L;
          (q5.1, q5.2.1, q5.2.2)
      else
        if x0 = 3 then
          let q1 := f_182 (Int32.toInt64 x1) 0 9;
          if q1 = 0 then
            let q2 := f_179 (-1) (am_u I 66 0 0) L;
            (q2.1, q2.2.1, q2.2.2)
          else
            let q3 := f_188 (5 + x0) x1 (am_u (am_u I 66 0 0) 66 8 0) L;
            (q3.1, q3.2.1, q3.2.2)
        else
          let q0 := f_179 (-1) (am_u I 66 0 0) L;
          (q0.1, q0.2.1, q0.2.2)
def p_197 (x0 : Int32) (x1 : Int32) (I : Nat → Nat → Int32) (L : Nat → Nat → Int64) : Prop :=
  if x0 = 0 then
    (let q10 := f_182 (Int32.toInt64 x1) 0 9999;
      if q10 = 0 then
        p_179 (-1) (am_u I 66 0 0) L
      else
        p_188 (5 + x0) x1 (am_u (am_u I 66 0 0) 66 8 0) L)
  else
    if x0 = 1 then
      (let q7 := f_182 (Int32.toInt64 x1) 1 6;
        if q7 = 0 then
          p_179 (-1) (am_u I 66 0 0) L
        else
          p_188 (5 + x0) x1 (am_u (am_u I 66 0 0) 66 8 0) L)
    else
      if x0 = 2 then
        (let q4 := f_182 (Int32.toInt64 x1) 0 10;
          if q4 = 0 then
            p_179 (-1) (am_u I 66 0 0) L
          else
            p_188 (5 + x0) x1 (am_u (am_u I 66 0 0) 66 8 0) L)
      else
        if x0 = 3 then
          (let q1 := f_182 (Int32.toInt64 x1) 0 9;
            if q1 = 0 then
              p_179 (-1) (am_u I 66 0 0) L
            else
              p_188 (5 + x0) x1 (am_u (am_u I 66 0 0) 66 8 0) L)
        else
          p_179 (-1) (am_u I 66 0 0) L
set_option maxRecDepth 100000 in
theorem s_197 {S : am_S} {d N : Nat} {T : Nat → Nat × Nat} {I : Nat → Nat → Int32} {L : Nat → Nat → Int64} {r : Nat → Nat → Option Nat} {Q : am_Q} {x0 : Int32} {x1 : Int32} (hp : p_197 x0 x1 I L) (hq : Q (some (.int (f_197 x0 x1 I L).1)) (N, am_ts T, (f_197 x0 x1 I L).2.1, (f_197 x0 x1 I L).2.2, am_rs r)) : am_E S 197 (d + 1) 0 0 0 [.ref 66, .int x0, .int x1, am_jk] [] (N, am_ts T, I, L, am_rs r) Q := by
  unfold f_197 at hq
  unfold p_197 at hp
  try dsimp only at hq hp
  refine am_E.run [15, 32, 49, 66, 84] 2000 (show (if x0 = 0 then (am_E S 197 (d + 1) 0 0 15 [.ref 66, .int x0, .int x1, am_jk] [.long 9999, .long 0, .long (Int32.toInt64 x1)] (N, am_ts T, (am_u I 66 0 0), L, am_rs r) Q) else (if x0 = 1 then (am_E S 197 (d + 1) 0 0 32 [.ref 66, .int x0, .int x1, am_jk] [.long 6, .long 1, .long (Int32.toInt64 x1)] (N, am_ts T, (am_u I 66 0 0), L, am_rs r) Q) else (if x0 = 2 then (am_E S 197 (d + 1) 0 0 49 [.ref 66, .int x0, .int x1, am_jk] [.long 10, .long 0, .long (Int32.toInt64 x1)] (N, am_ts T, (am_u I 66 0 0), L, am_rs r) Q) else (if x0 = 3 then (am_E S 197 (d + 1) 0 0 66 [.ref 66, .int x0, .int x1, am_jk] [.long 9, .long 0, .long (Int32.toInt64 x1)] (N, am_ts T, (am_u I 66 0 0), L, am_rs r) Q) else (am_E S 197 (d + 1) 0 0 84 [.ref 66, .int x0, .int x1, .int 0] [.int (-1), .ref 66] (N, am_ts T, (am_u I 66 0 0), L, am_rs r) Q))))) from ?_)
  by_cases hc : x0 = 0
  · rw [if_pos hc] at hq hp ⊢
    refine am_E.go ⟨fun v h9 => v = some (.int (f_182 (Int32.toInt64 x1) 0 9999)) ∧ h9 = (N, am_ts T, (am_u I 66 0 0), L, am_rs r), s_182 ⟨rfl, rfl⟩, ?_⟩
    intro v h9 hv
    obtain ⟨rfl, rfl⟩ := hv
    generalize he_q10 : f_182 (Int32.toInt64 x1) 0 9999 = q10 at hq hp ⊢
    refine am_E.run [84, 98] 2000 (show (if q10 = 0 then (am_E S 197 (d + 1) 0 0 84 [.ref 66, .int x0, .int x1, .int q10] [.int (-1), .ref 66] (N, am_ts T, (am_u I 66 0 0), L, am_rs r) Q) else (am_E S 197 (d + 1) 0 0 98 [.ref 66, .int x0, .int x1, .int q10] [.int x1, .int (5 + x0), .ref 66] (N, am_ts T, (am_u (am_u I 66 0 0) 66 8 0), L, am_rs r) Q)) from ?_)
    by_cases hc : q10 = 0
    · rw [if_pos hc] at hq hp ⊢
      refine am_E.go ⟨fun v h9 => v = some (.int (f_179 (-1) (am_u I 66 0 0) L).1) ∧ h9 = (N, am_ts T, (f_179 (-1) (am_u I 66 0 0) L).2.1, (f_179 (-1) (am_u I 66 0 0) L).2.2, am_rs r), s_179 hp ⟨rfl, rfl⟩, ?_⟩
      intro v h9 hv
      obtain ⟨rfl, rfl⟩ := hv
      generalize he_q12 : f_179 (-1) (am_u I 66 0 0) L = q12 at hq ⊢
      refine am_E.run [] 2000 (show (True ∧ Q (some (.int q12.1)) (N, am_ts T, q12.2.1, q12.2.2, am_rs r)) from ?_)
      exact ⟨trivial, hq⟩
    · rw [if_neg hc] at hq hp ⊢
      refine am_E.go ⟨fun v h9 => v = some (.int (f_188 (5 + x0) x1 (am_u (am_u I 66 0 0) 66 8 0) L).1) ∧ h9 = (N, am_ts T, (f_188 (5 + x0) x1 (am_u (am_u I 66 0 0) 66 8 0) L).2.1, (f_188 (5 + x0) x1 (am_u (am_u I 66 0 0) 66 8 0) L).2.2, am_rs r), s_188 hp ⟨rfl, rfl⟩, ?_⟩
      intro v h9 hv
      obtain ⟨rfl, rfl⟩ := hv
      generalize he_q11 : f_188 (5 + x0) x1 (am_u (am_u I 66 0 0) 66 8 0) L = q11 at hq ⊢
      refine am_E.run [] 2000 (show (True ∧ Q (some (.int q11.1)) (N, am_ts T, q11.2.1, q11.2.2, am_rs r)) from ?_)
      exact ⟨trivial, hq⟩
  · rw [if_neg hc] at hq hp ⊢
    by_cases hc : x0 = 1
    · rw [if_pos hc] at hq hp ⊢
      refine am_E.go ⟨fun v h9 => v = some (.int (f_182 (Int32.toInt64 x1) 1 6)) ∧ h9 = (N, am_ts T, (am_u I 66 0 0), L, am_rs r), s_182 ⟨rfl, rfl⟩, ?_⟩
      intro v h9 hv
      obtain ⟨rfl, rfl⟩ := hv
      generalize he_q7 : f_182 (Int32.toInt64 x1) 1 6 = q7 at hq hp ⊢
      refine am_E.run [84, 98] 2000 (show (if q7 = 0 then (am_E S 197 (d + 1) 0 0 84 [.ref 66, .int x0, .int x1, .int q7] [.int (-1), .ref 66] (N, am_ts T, (am_u I 66 0 0), L, am_rs r) Q) else (am_E S 197 (d + 1) 0 0 98 [.ref 66, .int x0, .int x1, .int q7] [.int x1, .int (5 + x0), .ref 66] (N, am_ts T, (am_u (am_u I 66 0 0) 66 8 0), L, am_rs r) Q)) from ?_)
      by_cases hc : q7 = 0
      · rw [if_pos hc] at hq hp ⊢
        refine am_E.go ⟨fun v h9 => v = some (.int (f_179 (-1) (am_u I 66 0 0) L).1) ∧ h9 = (N, am_ts T, (f_179 (-1) (am_u I 66 0 0) L).2.1, (f_179 (-1) (am_u I 66 0 0) L).2.2, am_rs r), s_179 hp ⟨rfl, rfl⟩, ?_⟩
        intro v h9 hv
        obtain ⟨rfl, rfl⟩ := hv
        generalize he_q9 : f_179 (-1) (am_u I 66 0 0) L = q9 at hq ⊢
        refine am_E.run [] 2000 (show (True ∧ Q (some (.int q9.1)) (N, am_ts T, q9.2.1, q9.2.2, am_rs r)) from ?_)
        exact ⟨trivial, hq⟩
      · rw [if_neg hc] at hq hp ⊢
        refine am_E.go ⟨fun v h9 => v = some (.int (f_188 (5 + x0) x1 (am_u (am_u I 66 0 0) 66 8 0) L).1) ∧ h9 = (N, am_ts T, (f_188 (5 + x0) x1 (am_u (am_u I 66 0 0) 66 8 0) L).2.1, (f_188 (5 + x0) x1 (am_u (am_u I 66 0 0) 66 8 0) L).2.2, am_rs r), s_188 hp ⟨rfl, rfl⟩, ?_⟩
        intro v h9 hv
        obtain ⟨rfl, rfl⟩ := hv
        generalize he_q8 : f_188 (5 + x0) x1 (am_u (am_u I 66 0 0) 66 8 0) L = q8 at hq ⊢
        refine am_E.run [] 2000 (show (True ∧ Q (some (.int q8.1)) (N, am_ts T, q8.2.1, q8.2.2, am_rs r)) from ?_)
        exact ⟨trivial, hq⟩
    · rw [if_neg hc] at hq hp ⊢
      by_cases hc : x0 = 2
      · rw [if_pos hc] at hq hp ⊢
        refine am_E.go ⟨fun v h9 => v = some (.int (f_182 (Int32.toInt64 x1) 0 10)) ∧ h9 = (N, am_ts T, (am_u I 66 0 0), L, am_rs r), s_182 ⟨rfl, rfl⟩, ?_⟩
        intro v h9 hv
        obtain ⟨rfl, rfl⟩ := hv
        generalize he_q4 : f_182 (Int32.toInt64 x1) 0 10 = q4 at hq hp ⊢
        refine am_E.run [84, 98] 2000 (show (if q4 = 0 then (am_E S 197 (d + 1) 0 0 84 [.ref 66, .int x0, .int x1, .int q4] [.int (-1), .ref 66] (N, am_ts T, (am_u I 66 0 0), L, am_rs r) Q) else (am_E S 197 (d + 1) 0 0 98 [.ref 66, .int x0, .int x1, .int q4] [.int x1, .int (5 + x0), .ref 66] (N, am_ts T, (am_u (am_u I 66 0 0) 66 8 0), L, am_rs r) Q)) from ?_)
        by_cases hc : q4 = 0
        · rw [if_pos hc] at hq hp ⊢
          refine am_E.go ⟨fun v h9 => v = some (.int (f_179 (-1) (am_u I 66 0 0) L).1) ∧ h9 = (N, am_ts T, (f_179 (-1) (am_u I 66 0 0) L).2.1, (f_179 (-1) (am_u I 66 0 0) L).2.2, am_rs r), s_179 hp ⟨rfl, rfl⟩, ?_⟩
          intro v h9 hv
          obtain ⟨rfl, rfl⟩ := hv
          generalize he_q6 : f_179 (-1) (am_u I 66 0 0) L = q6 at hq ⊢
          refine am_E.run [] 2000 (show (True ∧ Q (some (.int q6.1)) (N, am_ts T, q6.2.1, q6.2.2, am_rs r)) from ?_)
          exact ⟨trivial, hq⟩
        · rw [if_neg hc] at hq hp ⊢
          refine am_E.go ⟨fun v h9 => v = some (.int (f_188 (5 + x0) x1 (am_u (am_u I 66 0 0) 66 8 0) L).1) ∧ h9 = (N, am_ts T, (f_188 (5 + x0) x1 (am_u (am_u I 66 0 0) 66 8 0) L).2.1, (f_188 (5 + x0) x1 (am_u (am_u I 66 0 0) 66 8 0) L).2.2, am_rs r), s_188 hp ⟨rfl, rfl⟩, ?_⟩
          intro v h9 hv
          obtain ⟨rfl, rfl⟩ := hv
          generalize he_q5 : f_188 (5 + x0) x1 (am_u (am_u I 66 0 0) 66 8 0) L = q5 at hq ⊢
          refine am_E.run [] 2000 (show (True ∧ Q (some (.int q5.1)) (N, am_ts T, q5.2.1, q5.2.2, am_rs r)) from ?_)
          exact ⟨trivial, hq⟩
      · rw [if_neg hc] at hq hp ⊢
        by_cases hc : x0 = 3
        · rw [if_pos hc] at hq hp ⊢
          refine am_E.go ⟨fun v h9 => v = some (.int (f_182 (Int32.toInt64 x1) 0 9)) ∧ h9 = (N, am_ts T, (am_u I 66 0 0), L, am_rs r), s_182 ⟨rfl, rfl⟩, ?_⟩
          intro v h9 hv
          obtain ⟨rfl, rfl⟩ := hv
          generalize he_q1 : f_182 (Int32.toInt64 x1) 0 9 = q1 at hq hp ⊢
          refine am_E.run [84, 98] 2000 (show (if q1 = 0 then (am_E S 197 (d + 1) 0 0 84 [.ref 66, .int x0, .int x1, .int 0] [.int (-1), .ref 66] (N, am_ts T, (am_u I 66 0 0), L, am_rs r) Q) else (am_E S 197 (d + 1) 0 0 98 [.ref 66, .int x0, .int x1, .int 1] [.int x1, .int (5 + x0), .ref 66] (N, am_ts T, (am_u (am_u I 66 0 0) 66 8 0), L, am_rs r) Q)) from ?_)
          by_cases hc : q1 = 0
          · rw [if_pos hc] at hq hp ⊢
            refine am_E.go ⟨fun v h9 => v = some (.int (f_179 (-1) (am_u I 66 0 0) L).1) ∧ h9 = (N, am_ts T, (f_179 (-1) (am_u I 66 0 0) L).2.1, (f_179 (-1) (am_u I 66 0 0) L).2.2, am_rs r), s_179 hp ⟨rfl, rfl⟩, ?_⟩
            intro v h9 hv
            obtain ⟨rfl, rfl⟩ := hv
            generalize he_q2 : f_179 (-1) (am_u I 66 0 0) L = q2 at hq ⊢
            refine am_E.run [] 2000 (show (True ∧ Q (some (.int q2.1)) (N, am_ts T, q2.2.1, q2.2.2, am_rs r)) from ?_)
            exact ⟨trivial, hq⟩
          · rw [if_neg hc] at hq hp ⊢
            refine am_E.go ⟨fun v h9 => v = some (.int (f_188 (5 + x0) x1 (am_u (am_u I 66 0 0) 66 8 0) L).1) ∧ h9 = (N, am_ts T, (f_188 (5 + x0) x1 (am_u (am_u I 66 0 0) 66 8 0) L).2.1, (f_188 (5 + x0) x1 (am_u (am_u I 66 0 0) 66 8 0) L).2.2, am_rs r), s_188 hp ⟨rfl, rfl⟩, ?_⟩
            intro v h9 hv
            obtain ⟨rfl, rfl⟩ := hv
            generalize he_q3 : f_188 (5 + x0) x1 (am_u (am_u I 66 0 0) 66 8 0) L = q3 at hq ⊢
            refine am_E.run [] 2000 (show (True ∧ Q (some (.int q3.1)) (N, am_ts T, q3.2.1, q3.2.2, am_rs r)) from ?_)
            exact ⟨trivial, hq⟩
        · rw [if_neg hc] at hq hp ⊢
          refine am_E.go ⟨fun v h9 => v = some (.int (f_179 (-1) (am_u I 66 0 0) L).1) ∧ h9 = (N, am_ts T, (f_179 (-1) (am_u I 66 0 0) L).2.1, (f_179 (-1) (am_u I 66 0 0) L).2.2, am_rs r), s_179 hp ⟨rfl, rfl⟩, ?_⟩
          intro v h9 hv
          obtain ⟨rfl, rfl⟩ := hv
          generalize he_q0 : f_179 (-1) (am_u I 66 0 0) L = q0 at hq ⊢
          refine am_E.run [] 2000 (show (True ∧ Q (some (.int q0.1)) (N, am_ts T, q0.2.1, q0.2.2, am_rs r)) from ?_)
          exact ⟨trivial, hq⟩
/-- KeyKeepersModel.rats()I -/
def f_199 (I : Nat → Nat → Int32) (L : Nat → Nat → Int64) : Int32 × (Nat → Nat → Int32) × (Nat → Nat → Int64) :=
  ((I 66 11), (am_u I 66 0 0), L)
set_option maxRecDepth 100000 in
theorem s_199 {S : am_S} {d N : Nat} {T : Nat → Nat × Nat} {I : Nat → Nat → Int32} {L : Nat → Nat → Int64} {r : Nat → Nat → Option Nat} {Q : am_Q} (hq : Q (some (.int (f_199 I L).1)) (N, am_ts T, (f_199 I L).2.1, (f_199 I L).2.2, am_rs r)) : am_E S 199 (d + 0) 0 0 0 [.ref 66] [] (N, am_ts T, I, L, am_rs r) Q := by
  unfold f_199 at hq
  try dsimp only at hq
  refine am_E.run [] 2000 (show (True ∧ Q (some (.int (I 66 11))) (N, am_ts T, (am_u I 66 0 0), L, am_rs r)) from ?_)
  exact ⟨trivial, hq⟩
/-- KeyKeepersModel.four(I)V -/
def f_201 (x0 : Int32) (I : Nat → Nat → Int32) (L : Nat → Nat → Int64) : Int32 × (Nat → Nat → Int32) × (Nat → Nat → Int64) :=
  (0, (am_u (am_u (am_u (am_u (am_u (am_u (am_u (am_u I 75 (Int32.toNatClampNeg (I 66 13)) ((x0 >>> (24 &&& 31)) &&& 255)) 66 13 ((I 66 13) + 1)) 75 (Int32.toNatClampNeg ((I 66 13) + 1)) ((x0 >>> ((24 + (-8)) &&& 31)) &&& 255)) 66 13 (((I 66 13) + 1) + 1)) 75 (Int32.toNatClampNeg (((I 66 13) + 1) + 1)) ((x0 >>> (((24 + (-8)) + (-8)) &&& 31)) &&& 255)) 66 13 ((((I 66 13) + 1) + 1) + 1)) 75 (Int32.toNatClampNeg ((((I 66 13) + 1) + 1) + 1)) ((x0 >>> ((((24 + (-8)) + (-8)) + (-8)) &&& 31)) &&& 255)) 66 13 (((((I 66 13) + 1) + 1) + 1) + 1)), L)
def p_201 (x0 : Int32) (I : Nat → Nat → Int32) (L : Nat → Nat → Int64) : Prop :=
  ¬ ((I 66 13) < 0 ∨ 400 ≤ Int32.toNatClampNeg (I 66 13)) ∧
  ¬ (((I 66 13) + 1) < 0 ∨ 400 ≤ Int32.toNatClampNeg ((I 66 13) + 1)) ∧
  ¬ ((((I 66 13) + 1) + 1) < 0 ∨ 400 ≤ Int32.toNatClampNeg (((I 66 13) + 1) + 1)) ∧
  ¬ (((((I 66 13) + 1) + 1) + 1) < 0 ∨ 400 ≤ Int32.toNatClampNeg ((((I 66 13) + 1) + 1) + 1)) ∧
  True
set_option maxRecDepth 100000 in
theorem s_201 {S : am_S} {d N : Nat} {T : Nat → Nat × Nat} {I : Nat → Nat → Int32} {L : Nat → Nat → Int64} {r : Nat → Nat → Option Nat} {Q : am_Q} {x0 : Int32} (hp : p_201 x0 I L) (hq : Q (none) (N, am_ts T, (f_201 x0 I L).2.1, (f_201 x0 I L).2.2, am_rs r)) : am_E S 201 (d + 0) 0 0 0 [.ref 66, .int x0, am_jk] [] (N, am_ts T, I, L, am_rs r) Q := by
  unfold f_201 at hq
  unfold p_201 at hp
  try dsimp only at hq hp
  refine am_E.run [] 2000 (show (if (I 66 13) < 0 ∨ 400 ≤ Int32.toNatClampNeg (I 66 13) then False else (if ((I 66 13) + 1) < 0 ∨ 400 ≤ Int32.toNatClampNeg ((I 66 13) + 1) then False else (if (((I 66 13) + 1) + 1) < 0 ∨ 400 ≤ Int32.toNatClampNeg (((I 66 13) + 1) + 1) then False else (if ((((I 66 13) + 1) + 1) + 1) < 0 ∨ 400 ≤ Int32.toNatClampNeg ((((I 66 13) + 1) + 1) + 1) then False else (True ∧ Q (none) (N, am_ts T, (am_u (am_u (am_u (am_u (am_u (am_u (am_u (am_u I 75 (Int32.toNatClampNeg (I 66 13)) ((x0 >>> (24 &&& 31)) &&& 255)) 66 13 ((I 66 13) + 1)) 75 (Int32.toNatClampNeg ((I 66 13) + 1)) ((x0 >>> ((24 + (-8)) &&& 31)) &&& 255)) 66 13 (((I 66 13) + 1) + 1)) 75 (Int32.toNatClampNeg (((I 66 13) + 1) + 1)) ((x0 >>> (((24 + (-8)) + (-8)) &&& 31)) &&& 255)) 66 13 ((((I 66 13) + 1) + 1) + 1)) 75 (Int32.toNatClampNeg ((((I 66 13) + 1) + 1) + 1)) ((x0 >>> ((((24 + (-8)) + (-8)) + (-8)) &&& 31)) &&& 255)) 66 13 (((((I 66 13) + 1) + 1) + 1) + 1)), L, am_rs r)))))) from ?_)
  rw [if_neg hp.1]
  replace hp := hp.2
  rw [if_neg hp.1]
  replace hp := hp.2
  rw [if_neg hp.1]
  replace hp := hp.2
  rw [if_neg hp.1]
  replace hp := hp.2
  exact ⟨trivial, hq⟩
/-- KeyKeepersModel.end(I)I -/
def f_202 (x0 : Int32) (I : Nat → Nat → Int32) (L : Nat → Nat → Int64) : Int32 × (Nat → Nat → Int32) × (Nat → Nat → Int64) :=
  if x0 < 0 then
    ((-1), (am_u I 66 0 0), L)
  else
    if x0 ≤ (I 66 13) then
      (x0, (am_u (am_u I 66 0 0) 66 13 x0), L)
    else
      ((-1), (am_u I 66 0 0), L)
set_option maxRecDepth 100000 in
theorem s_202 {S : am_S} {d N : Nat} {T : Nat → Nat × Nat} {I : Nat → Nat → Int32} {L : Nat → Nat → Int64} {r : Nat → Nat → Option Nat} {Q : am_Q} {x0 : Int32} (hq : Q (some (.int (f_202 x0 I L).1)) (N, am_ts T, (f_202 x0 I L).2.1, (f_202 x0 I L).2.2, am_rs r)) : am_E S 202 (d + 0) 0 0 0 [.ref 66, .int x0] [] (N, am_ts T, I, L, am_rs r) Q := by
  unfold f_202 at hq
  try dsimp only at hq
  refine am_E.run [] 2000 (show (if x0 < 0 then (True ∧ Q (some (.int (-1))) (N, am_ts T, (am_u I 66 0 0), L, am_rs r)) else (if x0 ≤ (I 66 13) then (True ∧ Q (some (.int x0)) (N, am_ts T, (am_u (am_u I 66 0 0) 66 13 x0), L, am_rs r)) else (True ∧ Q (some (.int (-1))) (N, am_ts T, (am_u I 66 0 0), L, am_rs r)))) from ?_)
  by_cases hc : x0 < 0
  · rw [if_pos hc] at hq ⊢
    exact ⟨trivial, hq⟩
  · rw [if_neg hc] at hq ⊢
    by_cases hc : x0 ≤ (I 66 13)
    · rw [if_pos hc] at hq ⊢
      exact ⟨trivial, hq⟩
    · rw [if_neg hc] at hq ⊢
      exact ⟨trivial, hq⟩
/-- KeyKeepersModel.fault()I -/
def f_203 (I : Nat → Nat → Int32) (L : Nat → Nat → Int64) : Int32 × (Nat → Nat → Int32) × (Nat → Nat → Int64) :=
  ((I 66 18), (am_u I 66 0 0), L)
set_option maxRecDepth 100000 in
theorem s_203 {S : am_S} {d N : Nat} {T : Nat → Nat × Nat} {I : Nat → Nat → Int32} {L : Nat → Nat → Int64} {r : Nat → Nat → Option Nat} {Q : am_Q} (hq : Q (some (.int (f_203 I L).1)) (N, am_ts T, (f_203 I L).2.1, (f_203 I L).2.2, am_rs r)) : am_E S 203 (d + 0) 0 0 0 [.ref 66] [] (N, am_ts T, I, L, am_rs r) Q := by
  unfold f_203 at hq
  try dsimp only at hq
  refine am_E.run [] 2000 (show (True ∧ Q (some (.int (I 66 18))) (N, am_ts T, (am_u I 66 0 0), L, am_rs r)) from ?_)
  exact ⟨trivial, hq⟩
/-- KeyKeepersModel.isSmall(I)Z -/
def f_208 (x0 : Int32) : Int32 :=
  if x0 < 97 then
    0
  else
    if (122 : Int32) < x0 then
      0
    else
      1
set_option maxRecDepth 100000 in
theorem s_208 {S : am_S} {d N : Nat} {T : Nat → Nat × Nat} {I : Nat → Nat → Int32} {L : Nat → Nat → Int64} {r : Nat → Nat → Option Nat} {Q : am_Q} {x0 : Int32} (hq : Q (some (.int (f_208 x0))) (N, am_ts T, I, L, am_rs r)) : am_E S 208 (d + 0) 0 0 0 [.int x0] [] (N, am_ts T, I, L, am_rs r) Q := by
  unfold f_208 at hq
  try dsimp only at hq
  refine am_E.run [] 2000 (show (if x0 < 97 then (((0 : Int32) = 0 ∨ (0 : Int32) = 1) ∧ Q (some (.int 0)) (N, am_ts T, I, L, am_rs r)) else (if (122 : Int32) < x0 then (((0 : Int32) = 0 ∨ (0 : Int32) = 1) ∧ Q (some (.int 0)) (N, am_ts T, I, L, am_rs r)) else (((1 : Int32) = 0 ∨ (1 : Int32) = 1) ∧ Q (some (.int 1)) (N, am_ts T, I, L, am_rs r)))) from ?_)
  by_cases hc : x0 < 97
  · rw [if_pos hc] at hq ⊢
    exact ⟨Or.inl rfl, hq⟩
  · rw [if_neg hc] at hq ⊢
    by_cases hc : (122 : Int32) < x0
    · rw [if_pos hc] at hq ⊢
      exact ⟨Or.inl rfl, hq⟩
    · rw [if_neg hc] at hq ⊢
      exact ⟨Or.inr rfl, hq⟩
/-- KeyKeepersModel.isDigit(I)Z -/
def f_209 (x0 : Int32) : Int32 :=
  if x0 < 48 then
    0
  else
    if (57 : Int32) < x0 then
      0
    else
      1
set_option maxRecDepth 100000 in
theorem s_209 {S : am_S} {d N : Nat} {T : Nat → Nat × Nat} {I : Nat → Nat → Int32} {L : Nat → Nat → Int64} {r : Nat → Nat → Option Nat} {Q : am_Q} {x0 : Int32} (hq : Q (some (.int (f_209 x0))) (N, am_ts T, I, L, am_rs r)) : am_E S 209 (d + 0) 0 0 0 [.int x0] [] (N, am_ts T, I, L, am_rs r) Q := by
  unfold f_209 at hq
  try dsimp only at hq
  refine am_E.run [] 2000 (show (if x0 < 48 then (((0 : Int32) = 0 ∨ (0 : Int32) = 1) ∧ Q (some (.int 0)) (N, am_ts T, I, L, am_rs r)) else (if (57 : Int32) < x0 then (((0 : Int32) = 0 ∨ (0 : Int32) = 1) ∧ Q (some (.int 0)) (N, am_ts T, I, L, am_rs r)) else (((1 : Int32) = 0 ∨ (1 : Int32) = 1) ∧ Q (some (.int 1)) (N, am_ts T, I, L, am_rs r)))) from ?_)
  by_cases hc : x0 < 48
  · rw [if_pos hc] at hq ⊢
    exact ⟨Or.inl rfl, hq⟩
  · rw [if_neg hc] at hq ⊢
    by_cases hc : (57 : Int32) < x0
    · rw [if_pos hc] at hq ⊢
      exact ⟨Or.inl rfl, hq⟩
    · rw [if_neg hc] at hq ⊢
      exact ⟨Or.inr rfl, hq⟩
/-- KeyKeepersModel.isWord(J)Z -/
def f_211 (x0 : Int64) (I : Nat → Nat → Int32) (L : Nat → Nat → Int64) : Int32 :=
  if (I 66 16) = 1 then
    if (lg_cmp (L 66 17) x0) = 0 then
      1
    else
      0
  else
    0
set_option maxRecDepth 100000 in
theorem s_211 {S : am_S} {d N : Nat} {T : Nat → Nat × Nat} {I : Nat → Nat → Int32} {L : Nat → Nat → Int64} {r : Nat → Nat → Option Nat} {Q : am_Q} {x0 : Int64} (hq : Q (some (.int (f_211 x0 I L))) (N, am_ts T, I, L, am_rs r)) : am_E S 211 (d + 0) 0 0 0 [.ref 66, .long x0, am_jk] [] (N, am_ts T, I, L, am_rs r) Q := by
  unfold f_211 at hq
  try dsimp only at hq
  refine am_E.run [] 2000 (show (if (I 66 16) = 1 then (if (lg_cmp (L 66 17) x0) = 0 then (((1 : Int32) = 0 ∨ (1 : Int32) = 1) ∧ Q (some (.int 1)) (N, am_ts T, I, L, am_rs r)) else (((0 : Int32) = 0 ∨ (0 : Int32) = 1) ∧ Q (some (.int 0)) (N, am_ts T, I, L, am_rs r))) else (((0 : Int32) = 0 ∨ (0 : Int32) = 1) ∧ Q (some (.int 0)) (N, am_ts T, I, L, am_rs r))) from ?_)
  by_cases hc : (I 66 16) = 1
  · rw [if_pos hc] at hq ⊢
    by_cases hc : (lg_cmp (L 66 17) x0) = 0
    · rw [if_pos hc] at hq ⊢
      exact ⟨Or.inr rfl, hq⟩
    · rw [if_neg hc] at hq ⊢
      exact ⟨Or.inl rfl, hq⟩
  · rw [if_neg hc] at hq ⊢
    exact ⟨Or.inl rfl, hq⟩
/-- KeyKeepersModel.push(II)V -/
def f_215 (x0 : Int32) (x1 : Int32) (I : Nat → Nat → Int32) (L : Nat → Nat → Int64) : Int32 × (Nat → Nat → Int32) × (Nat → Nat → Int64) :=
  (0, (am_u (am_u (am_u I 79 (Int32.toNatClampNeg (I 66 29)) x0) 80 (Int32.toNatClampNeg (I 66 29)) x1) 66 29 ((I 66 29) + 1)), L)
def p_215 (x0 : Int32) (x1 : Int32) (I : Nat → Nat → Int32) (L : Nat → Nat → Int64) : Prop :=
  ¬ ((I 66 29) < 0 ∨ 400 ≤ Int32.toNatClampNeg (I 66 29)) ∧
  ¬ ((I 66 29) < 0 ∨ 400 ≤ Int32.toNatClampNeg (I 66 29)) ∧
  True
set_option maxRecDepth 100000 in
theorem s_215 {S : am_S} {d N : Nat} {T : Nat → Nat × Nat} {I : Nat → Nat → Int32} {L : Nat → Nat → Int64} {r : Nat → Nat → Option Nat} {Q : am_Q} {x0 : Int32} {x1 : Int32} (hp : p_215 x0 x1 I L) (hq : Q (none) (N, am_ts T, (f_215 x0 x1 I L).2.1, (f_215 x0 x1 I L).2.2, am_rs r)) : am_E S 215 (d + 0) 0 0 0 [.ref 66, .int x0, .int x1] [] (N, am_ts T, I, L, am_rs r) Q := by
  unfold f_215 at hq
  unfold p_215 at hp
  try dsimp only at hq hp
  refine am_E.run [] 2000 (show (if (I 66 29) < 0 ∨ 400 ≤ Int32.toNatClampNeg (I 66 29) then False else (if (I 66 29) < 0 ∨ 400 ≤ Int32.toNatClampNeg (I 66 29) then False else (True ∧ Q (none) (N, am_ts T, (am_u (am_u (am_u I 79 (Int32.toNatClampNeg (I 66 29)) x0) 80 (Int32.toNatClampNeg (I 66 29)) x1) 66 29 ((I 66 29) + 1)), L, am_rs r)))) from ?_)
  rw [if_neg hp.1]
  replace hp := hp.2
  rw [if_neg hp.1]
  replace hp := hp.2
  exact ⟨trivial, hq⟩
/-- KeyKeepersModel.isSign(I)Z -/
def f_216 (x0 : Int32) (I : Nat → Nat → Int32) (L : Nat → Nat → Int64) : Int32 :=
  if (I 66 16) = 3 then
    if (lg_cmp (L 66 17) (Int32.toInt64 x0)) = 0 then
      1
    else
      0
  else
    0
set_option maxRecDepth 100000 in
theorem s_216 {S : am_S} {d N : Nat} {T : Nat → Nat × Nat} {I : Nat → Nat → Int32} {L : Nat → Nat → Int64} {r : Nat → Nat → Option Nat} {Q : am_Q} {x0 : Int32} (hq : Q (some (.int (f_216 x0 I L))) (N, am_ts T, I, L, am_rs r)) : am_E S 216 (d + 0) 0 0 0 [.ref 66, .int x0] [] (N, am_ts T, I, L, am_rs r) Q := by
  unfold f_216 at hq
  try dsimp only at hq
  refine am_E.run [] 2000 (show (if (I 66 16) = 3 then (if (lg_cmp (L 66 17) (Int32.toInt64 x0)) = 0 then (((1 : Int32) = 0 ∨ (1 : Int32) = 1) ∧ Q (some (.int 1)) (N, am_ts T, I, L, am_rs r)) else (((0 : Int32) = 0 ∨ (0 : Int32) = 1) ∧ Q (some (.int 0)) (N, am_ts T, I, L, am_rs r))) else (((0 : Int32) = 0 ∨ (0 : Int32) = 1) ∧ Q (some (.int 0)) (N, am_ts T, I, L, am_rs r))) from ?_)
  by_cases hc : (I 66 16) = 3
  · rw [if_pos hc] at hq ⊢
    by_cases hc : (lg_cmp (L 66 17) (Int32.toInt64 x0)) = 0
    · rw [if_pos hc] at hq ⊢
      exact ⟨Or.inr rfl, hq⟩
    · rw [if_neg hc] at hq ⊢
      exact ⟨Or.inl rfl, hq⟩
  · rw [if_neg hc] at hq ⊢
    exact ⟨Or.inl rfl, hq⟩
/-- KeyKeepersModel.emit(II)V -/
def f_222 (x0 : Int32) (x1 : Int32) (I : Nat → Nat → Int32) (L : Nat → Nat → Int64) : Int32 × (Nat → Nat → Int32) × (Nat → Nat → Int64) :=
  (0, (am_u (am_u (am_u I 77 (Int32.toNatClampNeg (I 66 23)) x0) 78 (Int32.toNatClampNeg (I 66 23)) x1) 66 23 ((I 66 23) + 1)), L)
def p_222 (x0 : Int32) (x1 : Int32) (I : Nat → Nat → Int32) (L : Nat → Nat → Int64) : Prop :=
  ¬ ((I 66 23) < 0 ∨ 400 ≤ Int32.toNatClampNeg (I 66 23)) ∧
  ¬ ((I 66 23) < 0 ∨ 400 ≤ Int32.toNatClampNeg (I 66 23)) ∧
  True
set_option maxRecDepth 100000 in
theorem s_222 {S : am_S} {d N : Nat} {T : Nat → Nat × Nat} {I : Nat → Nat → Int32} {L : Nat → Nat → Int64} {r : Nat → Nat → Option Nat} {Q : am_Q} {x0 : Int32} {x1 : Int32} (hp : p_222 x0 x1 I L) (hq : Q (none) (N, am_ts T, (f_222 x0 x1 I L).2.1, (f_222 x0 x1 I L).2.2, am_rs r)) : am_E S 222 (d + 0) 0 0 0 [.ref 66, .int x0, .int x1] [] (N, am_ts T, I, L, am_rs r) Q := by
  unfold f_222 at hq
  unfold p_222 at hp
  try dsimp only at hq hp
  refine am_E.run [] 2000 (show (if (I 66 23) < 0 ∨ 400 ≤ Int32.toNatClampNeg (I 66 23) then False else (if (I 66 23) < 0 ∨ 400 ≤ Int32.toNatClampNeg (I 66 23) then False else (True ∧ Q (none) (N, am_ts T, (am_u (am_u (am_u I 77 (Int32.toNatClampNeg (I 66 23)) x0) 78 (Int32.toNatClampNeg (I 66 23)) x1) 66 23 ((I 66 23) + 1)), L, am_rs r)))) from ?_)
  rw [if_neg hp.1]
  replace hp := hp.2
  rw [if_neg hp.1]
  replace hp := hp.2
  exact ⟨trivial, hq⟩
/-- KeyKeepersModel.binds(I)I -/
def f_225 (x0 : Int32) : Int32 :=
  if x0 < 31 then
    if x0 = 30 then
      1
    else
      if x0 = 29 then
        2
      else
        if x0 = 28 then
          3
        else
          if x0 < 25 then
            if x0 < 22 then
              5
            else
              6
          else
            4
  else
    0
set_option maxRecDepth 100000 in
theorem s_225 {S : am_S} {d N : Nat} {T : Nat → Nat × Nat} {I : Nat → Nat → Int32} {L : Nat → Nat → Int64} {r : Nat → Nat → Option Nat} {Q : am_Q} {x0 : Int32} (hq : Q (some (.int (f_225 x0))) (N, am_ts T, I, L, am_rs r)) : am_E S 225 (d + 0) 0 0 0 [.int x0] [] (N, am_ts T, I, L, am_rs r) Q := by
  unfold f_225 at hq
  try dsimp only at hq
  refine am_E.run [] 2000 (show (if x0 < 31 then (if x0 = 30 then (True ∧ Q (some (.int 1)) (N, am_ts T, I, L, am_rs r)) else (if x0 = 29 then (True ∧ Q (some (.int 2)) (N, am_ts T, I, L, am_rs r)) else (if x0 = 28 then (True ∧ Q (some (.int 3)) (N, am_ts T, I, L, am_rs r)) else (if x0 < 25 then (if x0 < 22 then (True ∧ Q (some (.int 5)) (N, am_ts T, I, L, am_rs r)) else (True ∧ Q (some (.int 6)) (N, am_ts T, I, L, am_rs r))) else (True ∧ Q (some (.int 4)) (N, am_ts T, I, L, am_rs r)))))) else (True ∧ Q (some (.int 0)) (N, am_ts T, I, L, am_rs r))) from ?_)
  by_cases hc : x0 < 31
  · rw [if_pos hc] at hq ⊢
    by_cases hc : x0 = 30
    · rw [if_pos hc] at hq ⊢
      exact ⟨trivial, hq⟩
    · rw [if_neg hc] at hq ⊢
      by_cases hc : x0 = 29
      · rw [if_pos hc] at hq ⊢
        exact ⟨trivial, hq⟩
      · rw [if_neg hc] at hq ⊢
        by_cases hc : x0 = 28
        · rw [if_pos hc] at hq ⊢
          exact ⟨trivial, hq⟩
        · rw [if_neg hc] at hq ⊢
          by_cases hc : x0 < 25
          · rw [if_pos hc] at hq ⊢
            by_cases hc : x0 < 22
            · rw [if_pos hc] at hq ⊢
              exact ⟨trivial, hq⟩
            · rw [if_neg hc] at hq ⊢
              exact ⟨trivial, hq⟩
          · rw [if_neg hc] at hq ⊢
            exact ⟨trivial, hq⟩
  · rw [if_neg hc] at hq ⊢
    exact ⟨trivial, hq⟩
/-- KeyKeepersModel.isLaw(I)Z -/
def f_232 (x0 : Int32) (I : Nat → Nat → Int32) : Int32 :=
  if x0 = (-1) then
    1
  else
    let q0 := f_182 (Int32.toInt64 x0) 0 ((Int32.toInt64 (I 68 3)) - 1);
    if q0 = 0 then
      0
    else
      1
set_option maxRecDepth 100000 in
theorem s_232 {S : am_S} {d N : Nat} {T : Nat → Nat × Nat} {I : Nat → Nat → Int32} {L : Nat → Nat → Int64} {r : Nat → Nat → Option Nat} {Q : am_Q} {x0 : Int32} (hq : Q (some (.int (f_232 x0 I))) (N, am_ts T, I, L, am_rs r)) : am_E S 232 (d + 1) 0 0 0 [.ref 66, .int x0] [] (N, am_ts T, I, L, am_rs r) Q := by
  unfold f_232 at hq
  try dsimp only at hq
  refine am_E.run [17] 2000 (show (if x0 = (-1) then (((1 : Int32) = 0 ∨ (1 : Int32) = 1) ∧ Q (some (.int 1)) (N, am_ts T, I, L, am_rs r)) else (am_E S 232 (d + 1) 0 0 17 [.ref 66, .int x0] [.long ((Int32.toInt64 (I 68 3)) - 1), .long 0, .long (Int32.toInt64 x0)] (N, am_ts T, I, L, am_rs r) Q)) from ?_)
  by_cases hc : x0 = (-1)
  · rw [if_pos hc] at hq ⊢
    exact ⟨Or.inr rfl, hq⟩
  · rw [if_neg hc] at hq ⊢
    refine am_E.go ⟨fun v h9 => v = some (.int (f_182 (Int32.toInt64 x0) 0 ((Int32.toInt64 (I 68 3)) - 1))) ∧ h9 = (N, am_ts T, I, L, am_rs r), s_182 ⟨rfl, rfl⟩, ?_⟩
    intro v h9 hv
    obtain ⟨rfl, rfl⟩ := hv
    generalize he_q0 : f_182 (Int32.toInt64 x0) 0 ((Int32.toInt64 (I 68 3)) - 1) = q0 at hq ⊢
    refine am_E.run [] 2000 (show (if q0 = 0 then (((0 : Int32) = 0 ∨ (0 : Int32) = 1) ∧ Q (some (.int 0)) (N, am_ts T, I, L, am_rs r)) else (((1 : Int32) = 0 ∨ (1 : Int32) = 1) ∧ Q (some (.int 1)) (N, am_ts T, I, L, am_rs r))) from ?_)
    by_cases hc : q0 = 0
    · rw [if_pos hc] at hq ⊢
      exact ⟨Or.inl rfl, hq⟩
    · rw [if_neg hc] at hq ⊢
      exact ⟨Or.inr rfl, hq⟩
/-- KeyKeepersModel.term(I)I -/
def f_237 (x0 : Int32) (I : Nat → Nat → Int32) : Int32 :=
  (I 68 (Int32.toNatClampNeg (5 + x0)))
def p_237 (x0 : Int32) (I : Nat → Nat → Int32) : Prop :=
  ¬ ((5 + x0) < 0 ∨ 5510 ≤ Int32.toNatClampNeg (5 + x0)) ∧
  True
set_option maxRecDepth 100000 in
theorem s_237 {S : am_S} {d N : Nat} {T : Nat → Nat × Nat} {I : Nat → Nat → Int32} {L : Nat → Nat → Int64} {r : Nat → Nat → Option Nat} {Q : am_Q} {x0 : Int32} (hp : p_237 x0 I) (hq : Q (some (.int (f_237 x0 I))) (N, am_ts T, I, L, am_rs r)) : am_E S 237 (d + 0) 0 0 0 [.ref 66, .int x0] [] (N, am_ts T, I, L, am_rs r) Q := by
  unfold f_237 at hq
  unfold p_237 at hp
  try dsimp only at hq hp
  refine am_E.run [] 2000 (show (if (5 + x0) < 0 ∨ 5510 ≤ Int32.toNatClampNeg (5 + x0) then False else (True ∧ Q (some (.int (I 68 (Int32.toNatClampNeg (5 + x0))))) (N, am_ts T, I, L, am_rs r))) from ?_)
  rw [if_neg hp.1]
  replace hp := hp.2
  exact ⟨trivial, hq⟩
/-- KeyKeepersModel.within(JII)I -/
def f_241 (x0 : Int64) (x1 : Int32) (x2 : Int32) : Int32 :=
  if (0 : Int32) ≤ (lg_cmp x0 (Int32.toInt64 x1)) then
    if (lg_cmp x0 (Int32.toInt64 x2)) ≤ 0 then
      (Int64.toInt32 x0)
    else
      x2
  else
    x1
set_option maxRecDepth 100000 in
theorem s_241 {S : am_S} {d N : Nat} {T : Nat → Nat × Nat} {I : Nat → Nat → Int32} {L : Nat → Nat → Int64} {r : Nat → Nat → Option Nat} {Q : am_Q} {x0 : Int64} {x1 : Int32} {x2 : Int32} (hq : Q (some (.int (f_241 x0 x1 x2))) (N, am_ts T, I, L, am_rs r)) : am_E S 241 (d + 0) 0 0 0 [.long x0, am_jk, .int x1, .int x2] [] (N, am_ts T, I, L, am_rs r) Q := by
  unfold f_241 at hq
  try dsimp only at hq
  refine am_E.run [] 2000 (show (if (0 : Int32) ≤ (lg_cmp x0 (Int32.toInt64 x1)) then (if (lg_cmp x0 (Int32.toInt64 x2)) ≤ 0 then (True ∧ Q (some (.int (Int64.toInt32 x0))) (N, am_ts T, I, L, am_rs r)) else (True ∧ Q (some (.int x2)) (N, am_ts T, I, L, am_rs r))) else (True ∧ Q (some (.int x1)) (N, am_ts T, I, L, am_rs r))) from ?_)
  by_cases hc : (0 : Int32) ≤ (lg_cmp x0 (Int32.toInt64 x1))
  · rw [if_pos hc] at hq ⊢
    by_cases hc : (lg_cmp x0 (Int32.toInt64 x2)) ≤ 0
    · rw [if_pos hc] at hq ⊢
      exact ⟨trivial, hq⟩
    · rw [if_neg hc] at hq ⊢
      exact ⟨trivial, hq⟩
  · rw [if_neg hc] at hq ⊢
    exact ⟨trivial, hq⟩
/-- KeyKeepersModel.is(II)Z -/
def f_248 (x0 : Int32) (x1 : Int32) : Int32 :=
  if ((x0 >>> (x1 &&& 31)) &&& 1) = 1 then
    1
  else
    0
set_option maxRecDepth 100000 in
theorem s_248 {S : am_S} {d N : Nat} {T : Nat → Nat × Nat} {I : Nat → Nat → Int32} {L : Nat → Nat → Int64} {r : Nat → Nat → Option Nat} {Q : am_Q} {x0 : Int32} {x1 : Int32} (hq : Q (some (.int (f_248 x0 x1))) (N, am_ts T, I, L, am_rs r)) : am_E S 248 (d + 0) 0 0 0 [.int x0, .int x1] [] (N, am_ts T, I, L, am_rs r) Q := by
  unfold f_248 at hq
  try dsimp only at hq
  refine am_E.run [] 2000 (show (if ((x0 >>> (x1 &&& 31)) &&& 1) = 1 then (((1 : Int32) = 0 ∨ (1 : Int32) = 1) ∧ Q (some (.int 1)) (N, am_ts T, I, L, am_rs r)) else (((0 : Int32) = 0 ∨ (0 : Int32) = 1) ∧ Q (some (.int 0)) (N, am_ts T, I, L, am_rs r))) from ?_)
  by_cases hc : ((x0 >>> (x1 &&& 31)) &&& 1) = 1
  · rw [if_pos hc] at hq ⊢
    exact ⟨Or.inr rfl, hq⟩
  · rw [if_neg hc] at hq ⊢
    exact ⟨Or.inl rfl, hq⟩
/-- KeyKeepersModel.trusts(II)Z -/
def f_249 (x0 : Int32) (x1 : Int32) (I : Nat → Nat → Int32) : Int32 :=
  let q0 := f_248 (I 68 (Int32.toNatClampNeg (42 + x0))) x1;
  q0
def p_249 (x0 : Int32) (x1 : Int32) (I : Nat → Nat → Int32) : Prop :=
  ¬ ((42 + x0) < 0 ∨ 5510 ≤ Int32.toNatClampNeg (42 + x0)) ∧
  (let q0 := f_248 (I 68 (Int32.toNatClampNeg (42 + x0))) x1;
    q0 = 0 ∨ q0 = 1)
set_option maxRecDepth 100000 in
theorem s_249 {S : am_S} {d N : Nat} {T : Nat → Nat × Nat} {I : Nat → Nat → Int32} {L : Nat → Nat → Int64} {r : Nat → Nat → Option Nat} {Q : am_Q} {x0 : Int32} {x1 : Int32} (hp : p_249 x0 x1 I) (hq : Q (some (.int (f_249 x0 x1 I))) (N, am_ts T, I, L, am_rs r)) : am_E S 249 (d + 1) 0 0 0 [.ref 66, .int x0, .int x1] [] (N, am_ts T, I, L, am_rs r) Q := by
  unfold f_249 at hq
  unfold p_249 at hp
  try dsimp only at hq hp
  refine am_E.run [10] 2000 (show (if (42 + x0) < 0 ∨ 5510 ≤ Int32.toNatClampNeg (42 + x0) then False else (am_E S 249 (d + 1) 0 0 10 [.ref 66, .int x0, .int x1] [.int x1, .int (I 68 (Int32.toNatClampNeg (42 + x0)))] (N, am_ts T, I, L, am_rs r) Q)) from ?_)
  rw [if_neg hp.1]
  replace hp := hp.2
  refine am_E.go ⟨fun v h9 => v = some (.int (f_248 (I 68 (Int32.toNatClampNeg (42 + x0))) x1)) ∧ h9 = (N, am_ts T, I, L, am_rs r), s_248 ⟨rfl, rfl⟩, ?_⟩
  intro v h9 hv
  obtain ⟨rfl, rfl⟩ := hv
  generalize he_q0 : f_248 (I 68 (Int32.toNatClampNeg (42 + x0))) x1 = q0 at hq hp ⊢
  refine am_E.run [] 2000 (show ((q0 = 0 ∨ q0 = 1) ∧ Q (some (.int q0)) (N, am_ts T, I, L, am_rs r)) from ?_)
  exact ⟨hp, hq⟩
/-- KeyKeepersModel.ofDoor(II)I -/
def f_250 (x0 : Int32) (x1 : Int32) (I : Nat → Nat → Int32) : Int32 :=
  (I 68 (Int32.toNatClampNeg ((58 + (3 * x0)) + x1)))
def p_250 (x0 : Int32) (x1 : Int32) (I : Nat → Nat → Int32) : Prop :=
  ¬ (((58 + (3 * x0)) + x1) < 0 ∨ 5510 ≤ Int32.toNatClampNeg ((58 + (3 * x0)) + x1)) ∧
  True
set_option maxRecDepth 100000 in
theorem s_250 {S : am_S} {d N : Nat} {T : Nat → Nat × Nat} {I : Nat → Nat → Int32} {L : Nat → Nat → Int64} {r : Nat → Nat → Option Nat} {Q : am_Q} {x0 : Int32} {x1 : Int32} (hp : p_250 x0 x1 I) (hq : Q (some (.int (f_250 x0 x1 I))) (N, am_ts T, I, L, am_rs r)) : am_E S 250 (d + 0) 0 0 0 [.ref 66, .int x0, .int x1] [] (N, am_ts T, I, L, am_rs r) Q := by
  unfold f_250 at hq
  unfold p_250 at hp
  try dsimp only at hq hp
  refine am_E.run [] 2000 (show (if ((58 + (3 * x0)) + x1) < 0 ∨ 5510 ≤ Int32.toNatClampNeg ((58 + (3 * x0)) + x1) then False else (True ∧ Q (some (.int (I 68 (Int32.toNatClampNeg ((58 + (3 * x0)) + x1))))) (N, am_ts T, I, L, am_rs r))) from ?_)
  rw [if_neg hp.1]
  replace hp := hp.2
  exact ⟨trivial, hq⟩
/-- KeyKeepersModel.isAt(II)Z -/
def f_254 (x0 : Int32) (x1 : Int32) (I : Nat → Nat → Int32) : Int32 :=
  let q0 := f_250 x1 0 I;
  if q0 = x0 then
    1
  else
    let q1 := f_250 x1 1 I;
    if q1 = x0 then
      1
    else
      0
def p_254 (x0 : Int32) (x1 : Int32) (I : Nat → Nat → Int32) : Prop :=
  p_250 x1 0 I ∧
  (let q0 := f_250 x1 0 I;
    if q0 = x0 then
      True
    else
      p_250 x1 1 I)
set_option maxRecDepth 100000 in
theorem s_254 {S : am_S} {d N : Nat} {T : Nat → Nat × Nat} {I : Nat → Nat → Int32} {L : Nat → Nat → Int64} {r : Nat → Nat → Option Nat} {Q : am_Q} {x0 : Int32} {x1 : Int32} (hp : p_254 x0 x1 I) (hq : Q (some (.int (f_254 x0 x1 I))) (N, am_ts T, I, L, am_rs r)) : am_E S 254 (d + 1) 0 0 0 [.ref 66, .int x0, .int x1] [] (N, am_ts T, I, L, am_rs r) Q := by
  unfold f_254 at hq
  unfold p_254 at hp
  try dsimp only at hq hp
  refine am_E.run [3] 2000 (show (am_E S 254 (d + 1) 0 0 3 [.ref 66, .int x0, .int x1] [.int 0, .int x1, .ref 66] (N, am_ts T, I, L, am_rs r) Q) from ?_)
  refine am_E.go ⟨fun v h9 => v = some (.int (f_250 x1 0 I)) ∧ h9 = (N, am_ts T, I, L, am_rs r), s_250 hp.1 ⟨rfl, rfl⟩, ?_⟩
  replace hp := hp.2
  intro v h9 hv
  obtain ⟨rfl, rfl⟩ := hv
  generalize he_q0 : f_250 x1 0 I = q0 at hq hp ⊢
  refine am_E.run [13] 2000 (show (if q0 = x0 then (((1 : Int32) = 0 ∨ (1 : Int32) = 1) ∧ Q (some (.int 1)) (N, am_ts T, I, L, am_rs r)) else (am_E S 254 (d + 1) 0 0 13 [.ref 66, .int x0, .int x1] [.int 1, .int x1, .ref 66] (N, am_ts T, I, L, am_rs r) Q)) from ?_)
  by_cases hc : q0 = x0
  · rw [if_pos hc] at hq hp ⊢
    exact ⟨Or.inr rfl, hq⟩
  · rw [if_neg hc] at hq hp ⊢
    refine am_E.go ⟨fun v h9 => v = some (.int (f_250 x1 1 I)) ∧ h9 = (N, am_ts T, I, L, am_rs r), s_250 hp ⟨rfl, rfl⟩, ?_⟩
    intro v h9 hv
    obtain ⟨rfl, rfl⟩ := hv
    generalize he_q1 : f_250 x1 1 I = q1 at hq ⊢
    refine am_E.run [] 2000 (show (if q1 = x0 then (((1 : Int32) = 0 ∨ (1 : Int32) = 1) ∧ Q (some (.int 1)) (N, am_ts T, I, L, am_rs r)) else (((0 : Int32) = 0 ∨ (0 : Int32) = 1) ∧ Q (some (.int 0)) (N, am_ts T, I, L, am_rs r))) from ?_)
    by_cases hc : q1 = x0
    · rw [if_pos hc] at hq ⊢
      exact ⟨Or.inr rfl, hq⟩
    · rw [if_neg hc] at hq ⊢
      exact ⟨Or.inl rfl, hq⟩
/-- KeyKeepersModel.behindDoor(II)I -/
def f_257 (x0 : Int32) (x1 : Int32) (I : Nat → Nat → Int32) : Int32 :=
  let q0 := f_250 x1 0 I;
  if q0 = x0 then
    let q1 := f_250 x1 1 I;
    q1
  else
    q0
def p_257 (x0 : Int32) (x1 : Int32) (I : Nat → Nat → Int32) : Prop :=
  p_250 x1 0 I ∧
  (let q0 := f_250 x1 0 I;
    if q0 = x0 then
      p_250 x1 1 I
    else
      p_250 x1 0 I)
set_option maxRecDepth 100000 in
theorem s_257 {S : am_S} {d N : Nat} {T : Nat → Nat × Nat} {I : Nat → Nat → Int32} {L : Nat → Nat → Int64} {r : Nat → Nat → Option Nat} {Q : am_Q} {x0 : Int32} {x1 : Int32} (hp : p_257 x0 x1 I) (hq : Q (some (.int (f_257 x0 x1 I))) (N, am_ts T, I, L, am_rs r)) : am_E S 257 (d + 1) 0 0 0 [.ref 66, .int x0, .int x1] [] (N, am_ts T, I, L, am_rs r) Q := by
  unfold f_257 at hq
  unfold p_257 at hp
  try dsimp only at hq hp
  refine am_E.run [3] 2000 (show (am_E S 257 (d + 1) 0 0 3 [.ref 66, .int x0, .int x1] [.int 0, .int x1, .ref 66] (N, am_ts T, I, L, am_rs r) Q) from ?_)
  refine am_E.go ⟨fun v h9 => v = some (.int (f_250 x1 0 I)) ∧ h9 = (N, am_ts T, I, L, am_rs r), s_250 hp.1 ⟨rfl, rfl⟩, ?_⟩
  replace hp := hp.2
  intro v h9 hv
  obtain ⟨rfl, rfl⟩ := hv
  generalize he_q0 : f_250 x1 0 I = q0 at hq hp ⊢
  refine am_E.run [13, 22] 2000 (show (if q0 = x0 then (am_E S 257 (d + 1) 0 0 13 [.ref 66, .int x0, .int x1] [.int 1, .int x1, .ref 66] (N, am_ts T, I, L, am_rs r) Q) else (am_E S 257 (d + 1) 0 0 22 [.ref 66, .int x0, .int x1] [.int 0, .int x1, .ref 66] (N, am_ts T, I, L, am_rs r) Q)) from ?_)
  by_cases hc : q0 = x0
  · rw [if_pos hc] at hq hp ⊢
    refine am_E.go ⟨fun v h9 => v = some (.int (f_250 x1 1 I)) ∧ h9 = (N, am_ts T, I, L, am_rs r), s_250 hp ⟨rfl, rfl⟩, ?_⟩
    intro v h9 hv
    obtain ⟨rfl, rfl⟩ := hv
    generalize he_q1 : f_250 x1 1 I = q1 at hq ⊢
    refine am_E.run [] 2000 (show (True ∧ Q (some (.int q1)) (N, am_ts T, I, L, am_rs r)) from ?_)
    exact ⟨trivial, hq⟩
  · rw [if_neg hc] at hq hp ⊢
    refine am_E.go ⟨fun v h9 => v = some (.int (f_250 x1 0 I)) ∧ h9 = (N, am_ts T, I, L, am_rs r), s_250 hp ⟨rfl, rfl⟩, ?_⟩
    intro v h9 hv
    obtain ⟨rfl, rfl⟩ := hv
    rw [he_q0]
    refine am_E.run [] 2000 (show (True ∧ Q (some (.int q0)) (N, am_ts T, I, L, am_rs r)) from ?_)
    exact ⟨trivial, hq⟩
/-- KeyKeepersModel.takeOff(I)V -/
def f_274 (x0 : Int32) (I : Nat → Nat → Int32) (L : Nat → Nat → Int64) : Int32 × (Nat → Nat → Int32) × (Nat → Nat → Int64) :=
  if x0 < 0 then
    (0, I, L)
  else
    if (I 89 (Int32.toNatClampNeg x0)) < 0 then
      (0, I, L)
    else
      if (I 68 1) ≤ (I 89 (Int32.toNatClampNeg x0)) then
        (0, I, L)
      else
        if (I 92 (Int32.toNatClampNeg x0)) = 0 then
          (0, I, L)
        else
          (0, (am_u (am_u I 91 (Int32.toNatClampNeg (I 89 (Int32.toNatClampNeg x0))) ((I 91 (Int32.toNatClampNeg (I 89 (Int32.toNatClampNeg x0)))) - 1)) 92 (Int32.toNatClampNeg x0) (vp_nar .boolean 0)), L)
def p_274 (x0 : Int32) (I : Nat → Nat → Int32) (L : Nat → Nat → Int64) : Prop :=
  if x0 < 0 then
    True
  else
    ¬ (x0 < 0 ∨ 7 ≤ Int32.toNatClampNeg x0) ∧
    if (I 89 (Int32.toNatClampNeg x0)) < 0 then
      True
    else
      ¬ (x0 < 0 ∨ 7 ≤ Int32.toNatClampNeg x0) ∧
      if (I 68 1) ≤ (I 89 (Int32.toNatClampNeg x0)) then
        True
      else
        ¬ (x0 < 0 ∨ 7 ≤ Int32.toNatClampNeg x0) ∧
        if (I 92 (Int32.toNatClampNeg x0)) = 0 then
          True
        else
          ¬ (x0 < 0 ∨ 7 ≤ Int32.toNatClampNeg x0) ∧
          ¬ ((I 89 (Int32.toNatClampNeg x0)) < 0 ∨ 8 ≤ Int32.toNatClampNeg (I 89 (Int32.toNatClampNeg x0))) ∧
          ¬ ((I 89 (Int32.toNatClampNeg x0)) < 0 ∨ 8 ≤ Int32.toNatClampNeg (I 89 (Int32.toNatClampNeg x0))) ∧
          ¬ (x0 < 0 ∨ 7 ≤ Int32.toNatClampNeg x0) ∧
          True
set_option maxRecDepth 100000 in
theorem s_274 {S : am_S} {d N : Nat} {T : Nat → Nat × Nat} {I : Nat → Nat → Int32} {L : Nat → Nat → Int64} {r : Nat → Nat → Option Nat} {Q : am_Q} {x0 : Int32} (hp : p_274 x0 I L) (hq : Q (none) (N, am_ts T, (f_274 x0 I L).2.1, (f_274 x0 I L).2.2, am_rs r)) : am_E S 274 (d + 0) 0 0 0 [.ref 66, .int x0] [] (N, am_ts T, I, L, am_rs r) Q := by
  unfold f_274 at hq
  unfold p_274 at hp
  try dsimp only at hq hp
  refine am_E.run [] 2000 (show (if x0 < 0 then (True ∧ Q (none) (N, am_ts T, I, L, am_rs r)) else (if x0 < 0 ∨ 7 ≤ Int32.toNatClampNeg x0 then False else (if (I 89 (Int32.toNatClampNeg x0)) < 0 then (True ∧ Q (none) (N, am_ts T, I, L, am_rs r)) else (if x0 < 0 ∨ 7 ≤ Int32.toNatClampNeg x0 then False else (if (I 68 1) ≤ (I 89 (Int32.toNatClampNeg x0)) then (True ∧ Q (none) (N, am_ts T, I, L, am_rs r)) else (if x0 < 0 ∨ 7 ≤ Int32.toNatClampNeg x0 then False else (if (I 92 (Int32.toNatClampNeg x0)) = 0 then (True ∧ Q (none) (N, am_ts T, I, L, am_rs r)) else (if x0 < 0 ∨ 7 ≤ Int32.toNatClampNeg x0 then False else (if (I 89 (Int32.toNatClampNeg x0)) < 0 ∨ 8 ≤ Int32.toNatClampNeg (I 89 (Int32.toNatClampNeg x0)) then False else (if (I 89 (Int32.toNatClampNeg x0)) < 0 ∨ 8 ≤ Int32.toNatClampNeg (I 89 (Int32.toNatClampNeg x0)) then False else (if x0 < 0 ∨ 7 ≤ Int32.toNatClampNeg x0 then False else (True ∧ Q (none) (N, am_ts T, (am_u (am_u I 91 (Int32.toNatClampNeg (I 89 (Int32.toNatClampNeg x0))) ((I 91 (Int32.toNatClampNeg (I 89 (Int32.toNatClampNeg x0)))) - 1)) 92 (Int32.toNatClampNeg x0) (vp_nar .boolean 0)), L, am_rs r))))))))))))) from ?_)
  by_cases hc : x0 < 0
  · rw [if_pos hc] at hq hp ⊢
    exact ⟨trivial, hq⟩
  · rw [if_neg hc] at hq hp ⊢
    rw [if_neg hp.1]
    replace hp := hp.2
    by_cases hc : (I 89 (Int32.toNatClampNeg x0)) < 0
    · rw [if_pos hc] at hq hp ⊢
      exact ⟨trivial, hq⟩
    · rw [if_neg hc] at hq hp ⊢
      rw [if_neg hp.1]
      replace hp := hp.2
      by_cases hc : (I 68 1) ≤ (I 89 (Int32.toNatClampNeg x0))
      · rw [if_pos hc] at hq hp ⊢
        exact ⟨trivial, hq⟩
      · rw [if_neg hc] at hq hp ⊢
        rw [if_neg hp.1]
        replace hp := hp.2
        by_cases hc : (I 92 (Int32.toNatClampNeg x0)) = 0
        · rw [if_pos hc] at hq hp ⊢
          exact ⟨trivial, hq⟩
        · rw [if_neg hc] at hq hp ⊢
          rw [if_neg hp.1]
          replace hp := hp.2
          rw [if_neg hp.1]
          replace hp := hp.2
          rw [if_neg hp.1]
          replace hp := hp.2
          rw [if_neg hp.1]
          replace hp := hp.2
          exact ⟨trivial, hq⟩
/-- KeyKeepersModel.costAt(I)I -/
def f_275 (x0 : Int32) (I : Nat → Nat → Int32) : Int32 :=
  if x0 ≤ 0 then
    (I 88 (Int32.toNatClampNeg (((12 * (I 89 (Int32.toNatClampNeg x0))) + (2 * x0)) + 0)))
  else
    if (I 89 (Int32.toNatClampNeg (x0 - 1))) = (I 89 (Int32.toNatClampNeg x0)) then
      (I 88 (Int32.toNatClampNeg (((12 * (I 89 (Int32.toNatClampNeg x0))) + (2 * x0)) + 1)))
    else
      (I 88 (Int32.toNatClampNeg (((12 * (I 89 (Int32.toNatClampNeg x0))) + (2 * x0)) + 0)))
def p_275 (x0 : Int32) (I : Nat → Nat → Int32) : Prop :=
  ¬ (x0 < 0 ∨ 7 ≤ Int32.toNatClampNeg x0) ∧
  if x0 ≤ 0 then
    ¬ ((((12 * (I 89 (Int32.toNatClampNeg x0))) + (2 * x0)) + 0) < 0 ∨ 96 ≤ Int32.toNatClampNeg (((12 * (I 89 (Int32.toNatClampNeg x0))) + (2 * x0)) + 0)) ∧
    True
  else
    ¬ ((x0 - 1) < 0 ∨ 7 ≤ Int32.toNatClampNeg (x0 - 1)) ∧
    ¬ (x0 < 0 ∨ 7 ≤ Int32.toNatClampNeg x0) ∧
    if (I 89 (Int32.toNatClampNeg (x0 - 1))) = (I 89 (Int32.toNatClampNeg x0)) then
      ¬ ((((12 * (I 89 (Int32.toNatClampNeg x0))) + (2 * x0)) + 1) < 0 ∨ 96 ≤ Int32.toNatClampNeg (((12 * (I 89 (Int32.toNatClampNeg x0))) + (2 * x0)) + 1)) ∧
      True
    else
      ¬ ((((12 * (I 89 (Int32.toNatClampNeg x0))) + (2 * x0)) + 0) < 0 ∨ 96 ≤ Int32.toNatClampNeg (((12 * (I 89 (Int32.toNatClampNeg x0))) + (2 * x0)) + 0)) ∧
      True
set_option maxRecDepth 100000 in
theorem s_275 {S : am_S} {d N : Nat} {T : Nat → Nat × Nat} {I : Nat → Nat → Int32} {L : Nat → Nat → Int64} {r : Nat → Nat → Option Nat} {Q : am_Q} {x0 : Int32} (hp : p_275 x0 I) (hq : Q (some (.int (f_275 x0 I))) (N, am_ts T, I, L, am_rs r)) : am_E S 275 (d + 0) 0 0 0 [.ref 66, .int x0] [] (N, am_ts T, I, L, am_rs r) Q := by
  unfold f_275 at hq
  unfold p_275 at hp
  try dsimp only at hq hp
  refine am_E.run [] 2000 (show (if x0 < 0 ∨ 7 ≤ Int32.toNatClampNeg x0 then False else (if x0 ≤ 0 then (if (((12 * (I 89 (Int32.toNatClampNeg x0))) + (2 * x0)) + 0) < 0 ∨ 96 ≤ Int32.toNatClampNeg (((12 * (I 89 (Int32.toNatClampNeg x0))) + (2 * x0)) + 0) then False else (True ∧ Q (some (.int (I 88 (Int32.toNatClampNeg (((12 * (I 89 (Int32.toNatClampNeg x0))) + (2 * x0)) + 0))))) (N, am_ts T, I, L, am_rs r))) else (if (x0 - 1) < 0 ∨ 7 ≤ Int32.toNatClampNeg (x0 - 1) then False else (if x0 < 0 ∨ 7 ≤ Int32.toNatClampNeg x0 then False else (if (I 89 (Int32.toNatClampNeg (x0 - 1))) = (I 89 (Int32.toNatClampNeg x0)) then (if (((12 * (I 89 (Int32.toNatClampNeg x0))) + (2 * x0)) + 1) < 0 ∨ 96 ≤ Int32.toNatClampNeg (((12 * (I 89 (Int32.toNatClampNeg x0))) + (2 * x0)) + 1) then False else (True ∧ Q (some (.int (I 88 (Int32.toNatClampNeg (((12 * (I 89 (Int32.toNatClampNeg x0))) + (2 * x0)) + 1))))) (N, am_ts T, I, L, am_rs r))) else (if (((12 * (I 89 (Int32.toNatClampNeg x0))) + (2 * x0)) + 0) < 0 ∨ 96 ≤ Int32.toNatClampNeg (((12 * (I 89 (Int32.toNatClampNeg x0))) + (2 * x0)) + 0) then False else (True ∧ Q (some (.int (I 88 (Int32.toNatClampNeg (((12 * (I 89 (Int32.toNatClampNeg x0))) + (2 * x0)) + 0))))) (N, am_ts T, I, L, am_rs r)))))))) from ?_)
  rw [if_neg hp.1]
  replace hp := hp.2
  by_cases hc : x0 ≤ 0
  · rw [if_pos hc] at hq hp ⊢
    rw [if_neg hp.1]
    replace hp := hp.2
    exact ⟨trivial, hq⟩
  · rw [if_neg hc] at hq hp ⊢
    rw [if_neg hp.1]
    replace hp := hp.2
    rw [if_neg hp.1]
    replace hp := hp.2
    by_cases hc : (I 89 (Int32.toNatClampNeg (x0 - 1))) = (I 89 (Int32.toNatClampNeg x0))
    · rw [if_pos hc] at hq hp ⊢
      rw [if_neg hp.1]
      replace hp := hp.2
      exact ⟨trivial, hq⟩
    · rw [if_neg hc] at hq hp ⊢
      rw [if_neg hp.1]
      replace hp := hp.2
      exact ⟨trivial, hq⟩
/-- KeyKeepersModel.tally(II)I -/
def f_281 (x0 : Int32) (x1 : Int32) (I : Nat → Nat → Int32) (L : Nat → Nat → Int64) : Int32 × (Nat → Nat → Int32) × (Nat → Nat → Int64) :=
  let q0 := f_182 (Int32.toInt64 x0) 0 ((1 <<< (Int32.toInt64 (I 68 1) &&& 63)) - 1);
  if q0 = 0 then
    let q1 := f_179 (-1) (am_u I 66 0 0) L;
    (q1.1, q1.2.1, q1.2.2)
  else
    let q2 := f_236 x0;
    let q3 := f_182 (Int32.toInt64 x1) 0 (Int32.toInt64 q2);
    if q3 = 0 then
      let q6 := f_179 (-1) (am_u I 66 0 0) L;
      (q6.1, q6.2.1, q6.2.2)
    else
      if (I 68 2) = 8 then
        let q5 := f_179 (-5) (am_u I 66 0 0) L;
        (q5.1, q5.2.1, q5.2.2)
      else
        let q4 := f_179 ((I 68 2) + 1) (am_u (am_u (am_u (am_u I 66 0 0) 68 (Int32.toNatClampNeg (94 + (2 * (I 68 2)))) x0) 68 (Int32.toNatClampNeg ((94 + (2 * (I 68 2))) + 1)) x1) 68 2 (((am_u (am_u (am_u I 66 0 0) 68 (Int32.toNatClampNeg (94 + (2 * (I 68 2)))) x0) 68 (Int32.toNatClampNeg ((94 + (2 * (I 68 2))) + 1)) x1) 68 2) + 1)) L;
        (q4.1, q4.2.1, q4.2.2)
def p_281 (x0 : Int32) (x1 : Int32) (I : Nat → Nat → Int32) (L : Nat → Nat → Int64) : Prop :=
  (let q0 := f_182 (Int32.toInt64 x0) 0 ((1 <<< (Int32.toInt64 (I 68 1) &&& 63)) - 1);
    if q0 = 0 then
      p_179 (-1) (am_u I 66 0 0) L
    else
      (let q2 := f_236 x0;
        (let q3 := f_182 (Int32.toInt64 x1) 0 (Int32.toInt64 q2);
          if q3 = 0 then
            p_179 (-1) (am_u I 66 0 0) L
          else
            if (I 68 2) = 8 then
              p_179 (-5) (am_u I 66 0 0) L
            else
              ¬ ((94 + (2 * (I 68 2))) < 0 ∨ 5510 ≤ Int32.toNatClampNeg (94 + (2 * (I 68 2)))) ∧
              ¬ (((94 + (2 * (I 68 2))) + 1) < 0 ∨ 5510 ≤ Int32.toNatClampNeg ((94 + (2 * (I 68 2))) + 1)) ∧
              p_179 ((I 68 2) + 1) (am_u (am_u (am_u (am_u I 66 0 0) 68 (Int32.toNatClampNeg (94 + (2 * (I 68 2)))) x0) 68 (Int32.toNatClampNeg ((94 + (2 * (I 68 2))) + 1)) x1) 68 2 (((am_u (am_u (am_u I 66 0 0) 68 (Int32.toNatClampNeg (94 + (2 * (I 68 2)))) x0) 68 (Int32.toNatClampNeg ((94 + (2 * (I 68 2))) + 1)) x1) 68 2) + 1)) L)))
set_option maxRecDepth 100000 in
theorem s_281 {S : am_S} {d N : Nat} {T : Nat → Nat × Nat} {I : Nat → Nat → Int32} {L : Nat → Nat → Int64} {r : Nat → Nat → Option Nat} {Q : am_Q} {x0 : Int32} {x1 : Int32} (hp : p_281 x0 x1 I L) (hq : Q (some (.int (f_281 x0 x1 I L).1)) (N, am_ts T, (f_281 x0 x1 I L).2.1, (f_281 x0 x1 I L).2.2, am_rs r)) : am_E S 281 (d + 1) 0 0 0 [.ref 66, .int x0, .int x1, am_jk] [] (N, am_ts T, I, L, am_rs r) Q := by
  unfold f_281 at hq
  unfold p_281 at hp
  try dsimp only at hq hp
  refine am_E.run [18] 2000 (show (am_E S 281 (d + 1) 0 0 18 [.ref 66, .int x0, .int x1, am_jk] [.long ((1 <<< (Int32.toInt64 (I 68 1) &&& 63)) - 1), .long 0, .long (Int32.toInt64 x0)] (N, am_ts T, (am_u I 66 0 0), L, am_rs r) Q) from ?_)
  refine am_E.go ⟨fun v h9 => v = some (.int (f_182 (Int32.toInt64 x0) 0 ((1 <<< (Int32.toInt64 (I 68 1) &&& 63)) - 1))) ∧ h9 = (N, am_ts T, (am_u I 66 0 0), L, am_rs r), s_182 ⟨rfl, rfl⟩, ?_⟩
  intro v h9 hv
  obtain ⟨rfl, rfl⟩ := hv
  generalize he_q0 : f_182 (Int32.toInt64 x0) 0 ((1 <<< (Int32.toInt64 (I 68 1) &&& 63)) - 1) = q0 at hq hp ⊢
  refine am_E.run [28, 40] 2000 (show (if q0 = 0 then (am_E S 281 (d + 1) 0 0 40 [.ref 66, .int x0, .int x1, am_jk] [.int (-1), .ref 66] (N, am_ts T, (am_u I 66 0 0), L, am_rs r) Q) else (am_E S 281 (d + 1) 0 0 28 [.ref 66, .int x0, .int x1, am_jk] [.int x0, .long 0, .long (Int32.toInt64 x1)] (N, am_ts T, (am_u I 66 0 0), L, am_rs r) Q)) from ?_)
  by_cases hc : q0 = 0
  · rw [if_pos hc] at hq hp ⊢
    refine am_E.go ⟨fun v h9 => v = some (.int (f_179 (-1) (am_u I 66 0 0) L).1) ∧ h9 = (N, am_ts T, (f_179 (-1) (am_u I 66 0 0) L).2.1, (f_179 (-1) (am_u I 66 0 0) L).2.2, am_rs r), s_179 hp ⟨rfl, rfl⟩, ?_⟩
    intro v h9 hv
    obtain ⟨rfl, rfl⟩ := hv
    generalize he_q1 : f_179 (-1) (am_u I 66 0 0) L = q1 at hq ⊢
    refine am_E.run [] 2000 (show (True ∧ Q (some (.int q1.1)) (N, am_ts T, q1.2.1, q1.2.2, am_rs r)) from ?_)
    exact ⟨trivial, hq⟩
  · rw [if_neg hc] at hq hp ⊢
    refine am_E.go ⟨fun v h9 => v = some (.int (f_236 x0)) ∧ h9 = (N, am_ts T, (am_u I 66 0 0), L, am_rs r), s_236 ⟨rfl, rfl⟩, ?_⟩
    intro v h9 hv
    obtain ⟨rfl, rfl⟩ := hv
    generalize he_q2 : f_236 x0 = q2 at hq hp ⊢
    refine am_E.run [32] 2000 (show (am_E S 281 (d + 1) 0 0 32 [.ref 66, .int x0, .int x1, am_jk] [.long (Int32.toInt64 q2), .long 0, .long (Int32.toInt64 x1)] (N, am_ts T, (am_u I 66 0 0), L, am_rs r) Q) from ?_)
    refine am_E.go ⟨fun v h9 => v = some (.int (f_182 (Int32.toInt64 x1) 0 (Int32.toInt64 q2))) ∧ h9 = (N, am_ts T, (am_u I 66 0 0), L, am_rs r), s_182 ⟨rfl, rfl⟩, ?_⟩
    intro v h9 hv
    obtain ⟨rfl, rfl⟩ := hv
    generalize he_q3 : f_182 (Int32.toInt64 x1) 0 (Int32.toInt64 q2) = q3 at hq hp ⊢
    refine am_E.run [40, 60, 104] 2000 (show (if q3 = 0 then (am_E S 281 (d + 1) 0 0 40 [.ref 66, .int x0, .int x1, am_jk] [.int (-1), .ref 66] (N, am_ts T, (am_u I 66 0 0), L, am_rs r) Q) else (if (I 68 2) = 8 then (am_E S 281 (d + 1) 0 0 60 [.ref 66, .int x0, .int x1, .int (I 68 2)] [.int (-5), .ref 66] (N, am_ts T, (am_u I 66 0 0), L, am_rs r) Q) else (if (94 + (2 * (I 68 2))) < 0 ∨ 5510 ≤ Int32.toNatClampNeg (94 + (2 * (I 68 2))) then False else (if ((94 + (2 * (I 68 2))) + 1) < 0 ∨ 5510 ≤ Int32.toNatClampNeg ((94 + (2 * (I 68 2))) + 1) then False else (am_E S 281 (d + 1) 0 0 104 [.ref 66, .int x0, .int x1, .int (I 68 2)] [.int ((I 68 2) + 1), .ref 66] (N, am_ts T, (am_u (am_u (am_u (am_u I 66 0 0) 68 (Int32.toNatClampNeg (94 + (2 * (I 68 2)))) x0) 68 (Int32.toNatClampNeg ((94 + (2 * (I 68 2))) + 1)) x1) 68 2 (((am_u (am_u (am_u I 66 0 0) 68 (Int32.toNatClampNeg (94 + (2 * (I 68 2)))) x0) 68 (Int32.toNatClampNeg ((94 + (2 * (I 68 2))) + 1)) x1) 68 2) + 1)), L, am_rs r) Q))))) from ?_)
    by_cases hc : q3 = 0
    · rw [if_pos hc] at hq hp ⊢
      refine am_E.go ⟨fun v h9 => v = some (.int (f_179 (-1) (am_u I 66 0 0) L).1) ∧ h9 = (N, am_ts T, (f_179 (-1) (am_u I 66 0 0) L).2.1, (f_179 (-1) (am_u I 66 0 0) L).2.2, am_rs r), s_179 hp ⟨rfl, rfl⟩, ?_⟩
      intro v h9 hv
      obtain ⟨rfl, rfl⟩ := hv
      generalize he_q6 : f_179 (-1) (am_u I 66 0 0) L = q6 at hq ⊢
      refine am_E.run [] 2000 (show (True ∧ Q (some (.int q6.1)) (N, am_ts T, q6.2.1, q6.2.2, am_rs r)) from ?_)
      exact ⟨trivial, hq⟩
    · rw [if_neg hc] at hq hp ⊢
      by_cases hc : (I 68 2) = 8
      · rw [if_pos hc] at hq hp ⊢
        refine am_E.go ⟨fun v h9 => v = some (.int (f_179 (-5) (am_u I 66 0 0) L).1) ∧ h9 = (N, am_ts T, (f_179 (-5) (am_u I 66 0 0) L).2.1, (f_179 (-5) (am_u I 66 0 0) L).2.2, am_rs r), s_179 hp ⟨rfl, rfl⟩, ?_⟩
        intro v h9 hv
        obtain ⟨rfl, rfl⟩ := hv
        generalize he_q5 : f_179 (-5) (am_u I 66 0 0) L = q5 at hq ⊢
        refine am_E.run [] 2000 (show (True ∧ Q (some (.int q5.1)) (N, am_ts T, q5.2.1, q5.2.2, am_rs r)) from ?_)
        exact ⟨trivial, hq⟩
      · rw [if_neg hc] at hq hp ⊢
        rw [if_neg hp.1]
        replace hp := hp.2
        rw [if_neg hp.1]
        replace hp := hp.2
        refine am_E.go ⟨fun v h9 => v = some (.int (f_179 ((I 68 2) + 1) (am_u (am_u (am_u (am_u I 66 0 0) 68 (Int32.toNatClampNeg (94 + (2 * (I 68 2)))) x0) 68 (Int32.toNatClampNeg ((94 + (2 * (I 68 2))) + 1)) x1) 68 2 (((am_u (am_u (am_u I 66 0 0) 68 (Int32.toNatClampNeg (94 + (2 * (I 68 2)))) x0) 68 (Int32.toNatClampNeg ((94 + (2 * (I 68 2))) + 1)) x1) 68 2) + 1)) L).1) ∧ h9 = (N, am_ts T, (f_179 ((I 68 2) + 1) (am_u (am_u (am_u (am_u I 66 0 0) 68 (Int32.toNatClampNeg (94 + (2 * (I 68 2)))) x0) 68 (Int32.toNatClampNeg ((94 + (2 * (I 68 2))) + 1)) x1) 68 2 (((am_u (am_u (am_u I 66 0 0) 68 (Int32.toNatClampNeg (94 + (2 * (I 68 2)))) x0) 68 (Int32.toNatClampNeg ((94 + (2 * (I 68 2))) + 1)) x1) 68 2) + 1)) L).2.1, (f_179 ((I 68 2) + 1) (am_u (am_u (am_u (am_u I 66 0 0) 68 (Int32.toNatClampNeg (94 + (2 * (I 68 2)))) x0) 68 (Int32.toNatClampNeg ((94 + (2 * (I 68 2))) + 1)) x1) 68 2 (((am_u (am_u (am_u I 66 0 0) 68 (Int32.toNatClampNeg (94 + (2 * (I 68 2)))) x0) 68 (Int32.toNatClampNeg ((94 + (2 * (I 68 2))) + 1)) x1) 68 2) + 1)) L).2.2, am_rs r), s_179 hp ⟨rfl, rfl⟩, ?_⟩
        intro v h9 hv
        obtain ⟨rfl, rfl⟩ := hv
        generalize he_q4 : f_179 ((I 68 2) + 1) (am_u (am_u (am_u (am_u I 66 0 0) 68 (Int32.toNatClampNeg (94 + (2 * (I 68 2)))) x0) 68 (Int32.toNatClampNeg ((94 + (2 * (I 68 2))) + 1)) x1) 68 2 (((am_u (am_u (am_u I 66 0 0) 68 (Int32.toNatClampNeg (94 + (2 * (I 68 2)))) x0) 68 (Int32.toNatClampNeg ((94 + (2 * (I 68 2))) + 1)) x1) 68 2) + 1)) L = q4 at hq ⊢
        refine am_E.run [] 2000 (show (True ∧ Q (some (.int q4.1)) (N, am_ts T, q4.2.1, q4.2.2, am_rs r)) from ?_)
        exact ⟨trivial, hq⟩
/-- KeyKeepersModel.forget()I -/
def f_282 (I : Nat → Nat → Int32) (L : Nat → Nat → Int64) : Int32 × (Nat → Nat → Int32) × (Nat → Nat → Int64) :=
  ((I 68 2), (am_u (am_u I 66 0 0) 68 2 0), L)
set_option maxRecDepth 100000 in
theorem s_282 {S : am_S} {d N : Nat} {T : Nat → Nat × Nat} {I : Nat → Nat → Int32} {L : Nat → Nat → Int64} {r : Nat → Nat → Option Nat} {Q : am_Q} (hq : Q (some (.int (f_282 I L).1)) (N, am_ts T, (f_282 I L).2.1, (f_282 I L).2.2, am_rs r)) : am_E S 282 (d + 0) 0 0 0 [.ref 66, am_jk] [] (N, am_ts T, I, L, am_rs r) Q := by
  unfold f_282 at hq
  try dsimp only at hq
  refine am_E.run [] 2000 (show (True ∧ Q (some (.int (I 68 2))) (N, am_ts T, (am_u (am_u I 66 0 0) 68 2 0), L, am_rs r)) from ?_)
  exact ⟨trivial, hq⟩
