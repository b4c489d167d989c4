/-! what a head says of a row of cards, by a text's three parts T: one value for class and reference -/
/-- the six names -/
def t_nm (a b item place n more : Int32) (j : Nat) : Int32 := if j = 0 then a else if j = 1 then b else if j = 2 then item else if j = 3 then place else if j = 4 then n else more
theorem t_ev_congr {N N' : Nat → Int32} (h : ∀ j, j < 6 → N j = N' j) : ∀ (cs : List Nat) (st : List Int32), t_ev N cs st = t_ev N' cs st := by
  intro cs
  induction cs with
  | nil => intro st; rfl
  | cons c cs ih =>
    intro st
    rw [t_ev_cons, t_ev_cons]
    by_cases h1 : 100 ≤ c
    · rw [if_pos h1, if_pos h1, ih]
    · rw [if_neg h1, if_neg h1]
      by_cases h2 : c < 6
      · rw [if_pos h2, if_pos h2, h c h2, ih]
      · rw [if_neg h2, if_neg h2]
        by_cases h3 : c = 8 ∨ c = 14
        · rw [if_pos h3, if_pos h3]
          cases st with
          | nil => rfl
          | cons x r => exact ih _
        · rw [if_neg h3, if_neg h3]
          match st with
          | [] => rfl
          | [_] => rfl
          | y :: x :: r => exact ih _
def t_at (cs : List Nat) (a b item place n more : Int32) : Int32 := t_val (t_nm a b item place n more) cs
theorem t_at_eq (N : Nat → Int32) (cs : List Nat) : t_val N cs = t_at cs (N 0) (N 1) (N 2) (N 3) (N 4) (N 5) := by
  unfold t_at t_val
  rw [t_ev_congr (N := N) (N' := t_nm (N 0) (N 1) (N 2) (N 3) (N 4) (N 5))]
  intro j hj
  rcases (show j = 0 ∨ j = 1 ∨ j = 2 ∨ j = 3 ∨ j = 4 ∨ j = 5 by omega) with rfl | rfl | rfl | rfl | rfl | rfl <;> rfl
def t_off (T : Nat → List Nat) : Nat → Nat
  | 0 => 0
  | p + 1 => t_off T p + (T p).length
/-- a text's parts lie in the class's text cell t -/
def x_text (X : Nat → Nat → Int32) (t : Nat) (T : Nat → List Nat) : Prop :=
  X t 3 = nI 3 ∧ t_off T 3 ≤ 160 ∧ (∀ p, p < 3 → X (t + 2) p = nI (t_off T (p + 1)) ∧ t_wf (T p)) ∧ ∀ p j, p < 3 → j < (T p).length → X (t + 1) (t_off T p + j) = nI ((T p).getD j 0)
/-- ... and at number ru among the reference's -/
def m_text (M : Nat → Nat → Int32) (ru : Nat) (T : Nat → List Nat) : Prop :=
  t_off T 3 ≤ 160 ∧ (∀ p, p < 4 → M 63 (4 * ru + p) = nI (t_off T p)) ∧ (∀ p, p < 3 → t_wf (T p)) ∧ ∀ p j, p < 3 → j < (T p).length → M 62 (200 * ru + (t_off T p + j)) = nI (t_cm ((T p).getD j 0))
theorem t_off_le (T : Nat → List Nat) {p q : Nat} (h : p ≤ q) : t_off T p ≤ t_off T q := by
  induction h with
  | refl => exact Nat.le_refl _
  | step _ ih => exact Nat.le_trans ih (Nat.le_add_right _ _)
theorem t_off_3 (T : Nat → List Nat) {p : Nat} (h : p < 3) : t_off T p + (T p).length ≤ t_off T 3 := t_off_le T (p := p + 1) h
/-- unchanged but for the walk's names and stack -/
def x_fw (σ σ' : ow_S) : Prop := (∀ k, k ≠ 11 → k ≠ 12 → σ'.1 k = σ.1 k) ∧ σ'.2.2 = σ.2.2
theorem x_fw.rf (σ : ow_S) : x_fw σ σ := ⟨fun _ _ _ => rfl, rfl⟩
theorem x_fw.tr {a b c : ow_S} (h1 : x_fw a b) (h2 : x_fw b c) : x_fw a c := ⟨fun k p q => (h2.1 k p q).trans (h1.1 k p q), h2.2.trans h1.2⟩
theorem s_X7_tells (fu : Nat) (hfu : 1000 ≤ fu) {t : Nat} (ht : 12 < t) {T : Nat → List Nat} {p : Nat} (hp : p < 3) {σ : ow_S} (hR : σ.2.2 10 2 = some t) (hT : x_text σ.1 t T) :
    ∃ σ', f_X7_tells fu (nI p) σ = some (t_at (T p) (σ.1 11 0) (σ.1 11 1) (σ.1 11 2) (σ.1 11 3) (σ.1 11 4) (σ.1 11 5), σ') ∧ (∀ k, k ≠ 12 → σ'.1 k = σ.1 k) ∧ σ'.2 = σ.2 := by
  obtain ⟨h3, hl, he, hc⟩ := hT
  have hb := t_off_3 T hp
  have e1 : f_X6_endOf fu t (nI p) σ = some (nI (t_off T (p + 1)), σ) := by
    simp only [f_X6_endOf]
    rw [if_neg (nI_pos (by omega)), h3, if_neg (by rw [n_le (by decide) (by omega)]; omega), e_ckn _ (by omega) hp, n_cl (by omega), (he p hp).1]
  have e2 : f_X6_startOf fu t (nI p) σ = some (nI (t_off T p), σ) := by
    simp only [f_X6_startOf]
    cases p with
    | zero => rw [if_pos (by decide)]; rfl
    | succ q =>
      rw [if_neg (by rw [show (1 : Int32) = nI 1 from rfl, n_lt (by omega) (by decide)]; omega), h3, if_neg (by rw [n_le (by decide) (by omega)]; omega), show (1 : Int32) = nI 1 from rfl, n_sub (by omega), Nat.add_sub_cancel, e_ckn _ (by omega) (by omega), n_cl (by omega), (he q (by omega)).1]
  have hw := (he p hp).2
  obtain ⟨σ', a, b, e⟩ := s_tells_loop fu t (by omega) (T p) [] (t_off T p) fu σ hR (fun j hj => hc p j hp hj) (by omega) (Nat.zero_le _) trivial hw.1 hw.2 (by omega)
  refine ⟨σ', ?_, b, e⟩
  rw [← t_at_eq, t_val]
  simp only [f_X7_tells, hR, e_op, e1, e2, e_cl]
  exact a
theorem s_X9_tellsOf (fu : Nat) (hfu : 1000 ≤ fu) {ru : Nat} (hru : ru < 6) {T : Nat → List Nat} {p : Nat} (hp : p < 3) {σ : ow_S} (hR : σ.1 56 12 = nI ru) (hT : m_text σ.1 ru T) :
    ∃ σ', f_X9_tellsOf fu (nI p) σ = some (t_at (T p) (σ.1 73 0) (σ.1 73 1) (σ.1 73 2) (σ.1 73 3) (σ.1 73 4) (σ.1 73 5), σ') ∧ (∀ k, k ≠ 72 → σ'.1 k = σ.1 k) ∧ σ'.2 = σ.2 := by
  obtain ⟨hl, he, hw, hc⟩ := hT
  have hb := t_off_3 T hp
  obtain ⟨σ', a, b, e⟩ := s_tellsOf_loop fu ru p hru hp (T p) [] (t_off T p) fu σ hR (he (p + 1) (by omega)) (fun j hj => hc p j hp hj) (by omega) (Nat.zero_le _) trivial (hw p hp).1 (hw p hp).2 (by omega)
  refine ⟨σ', ?_, b, e⟩
  rw [← t_at_eq, t_val]
  simp only [f_X9_tellsOf, hR]
  rw [show (4 : Int32) = nI 4 from rfl, n_mul, n_add, e_ckn _ (by omega) (by omega), e_let, n_cl (by omega), he p (by omega)]
  exact a
/-! kinds -/
def h_sees (k mo p : Nat) : Bool := !(decide (k = 3) && decide (p < mo / 3)) && !((decide (k = 1) || decide (k = 3)) && decide (p % (mo + 2) = mo + 1))
def h_slip (mo p : Nat) (v : Int32) : Int32 := if p % (mo + 3) = mo + 2 then v + 1 else v
def h_keeps (k mo p : Nat) (v : Int32) : Int32 := if k = 2 then h_slip mo p v else if k = 4 then h_slip mo p v - (h_slip mo p v &&& 1) else v
def h_mask (b : Int32) : Int32 := (1 <<< (b &&& 31)) - 1
def h_times (k mo : Nat) : Nat := if k = 5 then 2 + mo / 5 else 1
def h_step (T : Nat → List Nat) (n : Int32) (k mo : Nat) (b : Int32) (card : Int32) (p : Nat) (s : Int32 × Int32) : Int32 × Int32 :=
  if h_sees k mo p = true then (h_keeps k mo p (t_at (T 0) s.1 s.2 card (nI p) n (nI mo)) &&& h_mask b, t_at (T 1) s.1 s.2 card (nI p) n (nI mo) &&& h_mask b) else s
def h_go (T : Nat → List Nat) (n : Int32) (k mo : Nat) (b : Int32) : List Int32 → Nat → Int32 × Int32 → Int32 × Int32
  | [], _, s => s
  | c :: cs, p, s => h_go T n k mo b cs (p + 1) (h_step T n k mo b c p s)
def h_many (T : Nat → List Nat) (n : Int32) (k mo : Nat) (b : Int32) (l : List Int32) : Nat → Int32 × Int32 → Int32 × Int32
  | 0, s => s
  | t + 1, s => h_many T n k mo b l t (h_go T n k mo b l 0 s)
def h_bd (v : Int32) : Int32 := if v < -1000000 then -1000000 else if 1000000 < v then 1000000 else v
def h_say (T : Nat → List Nat) (n : Int32) (k mo : Nat) (b f s : Int32) (l : List Int32) : Int32 :=
  h_bd (t_at (T 2) (h_many T n k mo b l (h_times k mo) (f &&& h_mask b, s &&& h_mask b)).1 (h_many T n k mo b l (h_times k mo) (f &&& h_mask b, s &&& h_mask b)).2 0 (nI l.length) n (nI mo))
/-- a head in the class's cell c -/
def x_head (X : Nat → Nat → Int32) (c k mo : Nat) (b f s : Int32) : Prop := X c 0 = nI k ∧ X c 1 = nI mo ∧ X c 2 = b ∧ X c 3 = f ∧ X c 4 = s ∧ k < 6 ∧ mo < 10
/-- cards in the class's row cell c -/
def x_row (X : Nat → Nat → Int32) (c : Nat) (l : List Int32) : Prop := X c 1 = nI l.length ∧ l.length ≤ 60 ∧ ∀ p, p < l.length → X (c + 1) p = l.getD p 0
theorem s_X0_lowest (fu c : Nat) (v : Int32) (σ : ow_S) : f_X0_lowest fu c v σ = some (v &&& h_mask (σ.1 c 2), σ) := rfl
theorem s_X0_sees (fu : Nat) {c k mo p : Nat} {b f s : Int32} {σ : ow_S} (h : x_head σ.1 c k mo b f s) (hp : p < 1000) : f_X0_sees fu c (nI p) σ = some (if h_sees k mo p = true then 1 else 0, σ) := by
  obtain ⟨hk, hm, -, -, -, k6, m10⟩ := h
  have e3 : nI k = (3 : Int32) ↔ k = 3 := n_eq (b := 3) (by omega) (by decide)
  have e1 : nI k = (1 : Int32) ↔ k = 1 := n_eq (b := 1) (by omega) (by decide)
  have ed : nI mo / (3 : Int32) = nI (mo / 3) := n_div (b := 3) (by omega) (by decide) (by decide)
  have ea : nI mo + (2 : Int32) = nI (mo + 2) := n_add mo 2
  have eb : nI mo + (1 : Int32) = nI (mo + 1) := n_add mo 1
  have q : ¬ nI (mo + 2) = (0 : Int32) := nI_ne0 (by omega) (by omega)
  have er : ow_irem (nI p) (nI (mo + 2)) = nI (p % (mo + 2)) := n_rem (by omega) (by omega) (by omega)
  have hlt : p % (mo + 2) < mo + 2 := Nat.mod_lt _ (by omega)
  have e36 : L_X0_sees_36 fu c (nI p) σ = some (if p % (mo + 2) = mo + 1 then 0 else 1, σ) := by
    simp only [L_X0_sees_36, L_X0_sees_53, hm, ea, eb, er]
    rw [e_ck _ q]
    by_cases hx : p % (mo + 2) = mo + 1
    · rw [if_pos (by rw [hx]), if_pos hx]
    · rw [if_neg (by rw [n_eq (by omega) (by omega)]; exact hx), if_neg hx]
  have e20 : L_X0_sees_20 fu c (nI p) σ = some (if (k = 1 ∨ k = 3) ∧ p % (mo + 2) = mo + 1 then 0 else 1, σ) := by
    simp only [L_X0_sees_20, L_X0_sees_53, hk, e1, e3, e36]
    by_cases k1 : k = 1 <;> by_cases k3 : k = 3 <;> simp [k1, k3]
  simp only [f_X0_sees, hk, hm, e3, ed, e20]
  have hle : nI (mo / 3) ≤ nI p ↔ mo / 3 ≤ p := n_le (by omega) (by omega)
  simp only [hle]
  unfold h_sees
  by_cases k3 : k = 3
  · by_cases hq : mo / 3 ≤ p
    · have : ¬ p < mo / 3 := by omega
      by_cases hx : p % (mo + 2) = mo + 1 <;> simp [k3, hq, this, hx]
    · have : p < mo / 3 := by omega
      simp [k3, hq, this]
  · by_cases k1 : k = 1 <;> by_cases hx : p % (mo + 2) = mo + 1 <;> simp [k3, k1, hx]
theorem h_and1 (v : Int32) : (v &&& 1 = 1 ∧ v - 1 = v - (v &&& 1)) ∨ (¬ v &&& 1 = 1 ∧ v = v - (v &&& 1)) := by
  obtain ⟨j, hj, e⟩ := pk_andE v (m := 1) 1 (by decide)
  rcases (show j = 0 ∨ j = 1 by omega) with rfl | rfl
  · right
    rw [e]
    exact ⟨by decide, by rw [show nI 0 = (0 : Int32) from rfl]; simp⟩
  · left
    rw [e]
    exact ⟨rfl, rfl⟩
theorem s_X0_keepsFirst (fu : Nat) {c k mo p : Nat} {b f s : Int32} {σ : ow_S} (h : x_head σ.1 c k mo b f s) (hp : p < 1000) (v : Int32) : f_X0_keepsFirst fu c v (nI p) σ = some (h_keeps k mo p v, σ) := by
  obtain ⟨hk, hm, -, -, -, k6, m10⟩ := h
  have e2 : nI k = (2 : Int32) ↔ k = 2 := n_eq (b := 2) (by omega) (by decide)
  have e4 : nI k = (4 : Int32) ↔ k = 4 := n_eq (b := 4) (by omega) (by decide)
  have ea : nI mo + (3 : Int32) = nI (mo + 3) := n_add mo 3
  have eb : nI mo + (2 : Int32) = nI (mo + 2) := n_add mo 2
  have q : ¬ nI (mo + 3) = (0 : Int32) := nI_ne0 (by omega) (by omega)
  have er : ow_irem (nI p) (nI (mo + 3)) = nI (p % (mo + 3)) := n_rem (by omega) (by omega) (by omega)
  have hlt : p % (mo + 3) < mo + 3 := Nat.mod_lt _ (by omega)
  have e42 : ∀ w : Int32, L_X0_keepsFirst_42 fu c w σ = some (if k = 4 then w - (w &&& 1) else w, σ) := by
    intro w
    simp only [L_X0_keepsFirst_42, hk, e4]
    by_cases k4 : k = 4
    · rw [if_pos k4, if_pos k4]
      rcases h_and1 w with ⟨h1, h2⟩ | ⟨h1, h2⟩
      · rw [if_pos h1, h2]
      · rw [if_neg h1, ← h2]
    · rw [if_neg k4, if_neg k4]
  have e18 : L_X0_keepsFirst_18 fu c v (nI p) σ = some (if k = 4 then h_slip mo p v - (h_slip mo p v &&& 1) else h_slip mo p v, σ) := by
    simp only [L_X0_keepsFirst_18, hm, ea, eb, er, e42, h_slip]
    rw [e_ck _ q]
    by_cases hx : p % (mo + 3) = mo + 2
    · rw [if_pos (by rw [hx]), if_pos hx]
    · rw [if_neg (by rw [n_eq (by omega) (by omega)]; exact hx), if_neg hx]
  simp only [f_X0_keepsFirst, hk, e2, e4, e18, h_keeps]
  by_cases k2 : k = 2 <;> by_cases k4 : k = 4 <;> simp [k2, k4]
