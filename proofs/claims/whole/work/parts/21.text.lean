/-! a text's codes, as the class has them: 0 .. 5 names, 6 or, 7 and, 8 not, 9 <, 10 =, 11 +, 12 -, 13 *, 14 minus, 100 and more a number -/
def t_bin (c : Nat) (x y : Int32) : Int32 :=
  if c = 6 then (if x = 0 then (if y = 0 then 0 else 1) else 1)
  else if c = 7 then (if x = 0 then 0 else (if y = 0 then 0 else 1))
  else if c = 9 then (if y ≤ x then 0 else 1)
  else if c = 10 then (if x = y then 1 else 0)
  else if c = 11 then x + y
  else if c = 12 then x - y
  else x * y
def t_un (c : Nat) (x : Int32) : Int32 := if c = 14 then -x else if x = 0 then 1 else 0
def t_ev (N : Nat → Int32) : List Nat → List Int32 → List Int32
  | [], st => st
  | c :: cs, st =>
    if 100 ≤ c then t_ev N cs (nI (c - 100) :: st)
    else if c < 6 then t_ev N cs (N c :: st)
    else if c = 8 ∨ c = 14 then (match st with | [] => [] | x :: r => t_ev N cs (t_un c x :: r))
    else (match st with | y :: x :: r => t_ev N cs (t_bin c x y :: r) | _ => [])
theorem t_ev_nil (N : Nat → Int32) (st : List Int32) : t_ev N [] st = st := rfl
theorem t_ev_cons (N : Nat → Int32) (c : Nat) (cs : List Nat) (st : List Int32) : t_ev N (c :: cs) st = if 100 ≤ c then t_ev N cs (nI (c - 100) :: st)
    else if c < 6 then t_ev N cs (N c :: st)
    else if c = 8 ∨ c = 14 then (match st with | [] => [] | x :: r => t_ev N cs (t_un c x :: r))
    else (match st with | y :: x :: r => t_ev N cs (t_bin c x y :: r) | _ => []) := by
  rw [t_ev.eq_def]
def t_dp : List Nat → Nat → Option Nat
  | [], d => some d
  | c :: cs, d =>
    if 100 ≤ c ∨ c < 6 then t_dp cs (d + 1)
    else if c = 8 ∨ c = 14 then (if d = 0 then none else t_dp cs d)
    else (if d < 2 then none else t_dp cs (d - 1))
def t_ok (c : Nat) : Prop := c < 15 ∨ (100 ≤ c ∧ c < 10100)
/-- a part of a text that can be told -/
def t_wf (cs : List Nat) : Prop := t_dp cs 0 = some 1 ∧ ∀ c ∈ cs, t_ok c
def t_val (N : Nat → Int32) (cs : List Nat) : Int32 := (t_ev N cs []).headD 0
/-- a stack in a row -/
def t_stk (f : Nat → Int32) : List Int32 → Prop
  | [] => True
  | x :: r => f r.length = x ∧ t_stk f r
theorem t_stk_up {f : Nat → Int32} {st : List Int32} {k : Nat} {v : Int32} (h : t_stk f st) (hk : st.length ≤ k) : t_stk (upd f k v) st := by
  induction st with
  | nil => trivial
  | cons x r ih =>
    have hl : r.length ≤ k := by simp at hk; omega
    have hne : r.length ≠ k := by simp at hk; omega
    exact ⟨by simp [upd, hne]; exact h.1, ih h.2 hl⟩
theorem t_stk_push {f : Nat → Int32} {st : List Int32} {v : Int32} (h : t_stk f st) : t_stk (upd f st.length v) (v :: st) := ⟨by simp [upd], t_stk_up h (Nat.le_refl _)⟩
/-- the class's join of two -/
theorem s_X7_joined (fu c : Nat) (hc : c < 15) (x y : Int32) (σ : ow_S) : f_X7_joined fu (nI c) x y σ = some (t_bin c x y, σ) := by
  have e : ∀ k : Nat, k < 2 ^ 31 → ((nI c = (OfNat.ofNat k : Int32)) ↔ c = k) := fun k hk => n_eq (by omega) hk
  have e6 : (nI c = 6) ↔ c = 6 := e 6 (by decide)
  have e7 : (nI c = 7) ↔ c = 7 := e 7 (by decide)
  have e8 : (nI c = 8) ↔ c = 8 := e 8 (by decide)
  have e9 : (nI c = 9) ↔ c = 9 := e 9 (by decide)
  have e10 : (nI c = 10) ↔ c = 10 := e 10 (by decide)
  have e11 : (nI c = 11) ↔ c = 11 := e 11 (by decide)
  have e12 : (nI c = 12) ↔ c = 12 := e 12 (by decide)
  simp only [f_X7_joined, L_X7_joined_52, L_X7_joined_102, e6, e7, e8, e9, e10, e11, e12, t_bin]
  by_cases h6 : c = 6 <;> by_cases h7 : c = 7 <;> by_cases h8 : c = 8 <;> by_cases h9 : c = 9 <;> by_cases h10 : c = 10 <;> by_cases h11 : c = 11 <;> by_cases h12 : c = 12 <;> simp_all <;> (repeat' split) <;> rfl
/-- the reference's numbers of the same codes -/
def t_cm (c : Nat) : Nat := if 100 ≤ c then c - 100 + 100000 else if c < 6 then c else c + 5
theorem s_X9_two_ (fu c : Nat) (hc : c < 15) (x y : Int32) (h6 : 6 ≤ c) (σ : ow_S) : f_X9_two_ fu (nI (c + 5)) x y σ = some (t_bin c x y, σ) := by
  have e : ∀ k : Nat, k < 2 ^ 31 → ((nI (c + 5) = (OfNat.ofNat k : Int32)) ↔ c + 5 = k) := fun k hk => n_eq (by omega) hk
  have e6 : (nI (c + 5) = 11) ↔ c = 6 := (e 11 (by decide)).trans (by omega)
  have e7 : (nI (c + 5) = 12) ↔ c = 7 := (e 12 (by decide)).trans (by omega)
  have e8 : (nI (c + 5) = 13) ↔ c = 8 := (e 13 (by decide)).trans (by omega)
  have e9 : (nI (c + 5) = 14) ↔ c = 9 := (e 14 (by decide)).trans (by omega)
  have e10 : (nI (c + 5) = 15) ↔ c = 10 := (e 15 (by decide)).trans (by omega)
  have e11 : (nI (c + 5) = 16) ↔ c = 11 := (e 16 (by decide)).trans (by omega)
  have e12 : (nI (c + 5) = 17) ↔ c = 12 := (e 17 (by decide)).trans (by omega)
  simp only [f_X9_two_, L_X9_two__52, L_X9_two__102, e6, e7, e8, e9, e10, e11, e12, t_bin]
  by_cases h6 : c = 6 <;> by_cases h7 : c = 7 <;> by_cases h8 : c = 8 <;> by_cases h9 : c = 9 <;> by_cases h10 : c = 10 <;> by_cases h11 : c = 11 <;> by_cases h12 : c = 12 <;> simp_all <;> (repeat' split) <;> rfl
