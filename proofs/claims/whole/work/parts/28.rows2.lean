/-! the class's row: turned, counted, summed -/
def x_rowg (σ : ow_S) (r S : Nat) (g : Nat → Int32) : Prop := σ.1 r 1 = nI S ∧ S ≤ 60 ∧ ∀ p, p < S → σ.1 (r + 1) p = g p
theorem x_rowg.row {σ : ow_S} {r S : Nat} {g : Nat → Int32} (h : x_rowg σ r S g) : x_row σ.1 r ((List.range S).map g) := ⟨by simpa using h.1, by simpa using h.2.1, fun p hp => by
  rw [l_len_range] at hp
  rw [h.2.2 p hp, l_map_range _ hp]⟩
theorem x_row.g {σ : ow_S} {r : Nat} {l : List Int32} (h : x_row σ.1 r l) : x_rowg σ r l.length (fun p => l.getD p 0) := h
theorem x_rowg.to {σ : ow_S} {r S : Nat} {g g' : Nat → Int32} (h : x_rowg σ r S g) (e : ∀ p, p < S → g p = g' p) : x_rowg σ r S g' := ⟨h.1, h.2.1, fun p hp => (h.2.2 p hp).trans (e p hp)⟩
theorem s_X4_change (fu : Nat) {r S i j : Nat} {g : Nat → Int32} {σ : ow_S} (h : x_rowg σ r S g) (hi : i < S) (hj : j < S) : ∃ σ', f_X4_change fu r (nI i) (nI j) σ = some σ' ∧ x_rowg σ' r S (fun p => if p = j then g i else if p = i then g j else g p) ∧ x_fr r σ σ' := by
  obtain ⟨h1, h2, h3⟩ := h
  have hhas : ∀ z : Nat, z < S → f_X4_has fu r (nI z) σ = some (1, σ) := by
    intro z hz
    simp only [f_X4_has, h1]
    rw [if_neg (nI_pos (by omega)), if_neg (by rw [n_le (by omega) (by omega)]; omega)]
  simp only [f_X4_change, hhas i hi, hhas j hj, e_cl, e_let]
  rw [if_neg (by decide), if_neg (by decide), e_ckn _ (by omega) (by omega), e_ckn _ (by omega) (by omega), e_ckn _ (by omega) (by omega), e_ckn _ (by omega) (by omega)]
  simp only [n_cl (a := i) (by omega), n_cl (a := j) (by omega)]
  refine ⟨_, rfl, ⟨?_, h2, fun p hp => ?_⟩, fun k hk1 hk2 => ?_, rfl⟩
  · rw [g_k _ _ (show r ≠ r + 1 by omega), g_k _ _ (show r ≠ r + 1 by omega), h1]
  · simp only [g_row, upd]
    by_cases p1 : p = j
    · rw [if_pos p1, if_pos p1, h3 i hi]
    · rw [if_neg p1, if_neg p1]
      by_cases p2 : p = i
      · rw [if_pos p2, if_pos p2, h3 j hj]
      · rw [if_neg p2, if_neg p2, h3 p hp]
  · rw [g_k _ _ hk2, g_k _ _ hk2]
theorem s_turn0_loop (fu : Nat) {r S : Nat} {g : Nat → Int32} : ∀ (q i fn : Nat) (σ : ow_S), i + q = S / 2 → q < fn → x_rowg σ r S (fun p => if p < i ∨ S - i ≤ p then g (S - 1 - p) else g p) → ∃ σ', L_X4_beTurned_6 fu fn r (nI i) σ = some σ' ∧ x_rowg σ' r S (fun p => g (S - 1 - p)) ∧ x_fr r σ σ' := by
  intro q
  induction q with
  | zero =>
    intro i fn σ hi hf h
    obtain ⟨fn, rfl⟩ : ∃ q, fn = q + 1 := ⟨fn - 1, by omega⟩
    have h60 := h.2.1
    refine ⟨σ, ?_, h.to (fun p hp => ?_), x_fr.rf r σ⟩
    · rw [L_X4_beTurned_6, h.1, show nI S / (2 : Int32) = nI (S / 2) from n_div (b := 2) (by omega) (by decide) (by decide), if_pos (by rw [n_le (by omega) (by omega)]; omega)]
    · by_cases c : p < i ∨ S - i ≤ p
      · rw [if_pos c]
      · rw [if_neg c]; congr 1; omega
  | succ q ih =>
    intro i fn σ hi hf h
    obtain ⟨fn, rfl⟩ : ∃ q, fn = q + 1 := ⟨fn - 1, by omega⟩
    have h60 := h.2.1
    rw [L_X4_beTurned_6, h.1, show nI S / (2 : Int32) = nI (S / 2) from n_div (b := 2) (by omega) (by decide) (by decide), if_neg (by rw [n_le (by omega) (by omega)]; omega), show (1 : Int32) = nI 1 from rfl, n_sub (by omega), n_sub (by omega)]
    obtain ⟨σ1, a1, b1, w1⟩ := s_X4_change fu h (i := i) (j := S - 1 - i) (by omega) (by omega)
    rw [a1, e_cv, e_let, n_add]
    obtain ⟨σ2, a2, b2, w2⟩ := ih (i + 1) fn σ1 (by omega) (by omega) (b1.to (fun p hp => by
      try dsimp only
      by_cases p1 : p = S - 1 - i
      · subst p1
        rw [if_pos rfl, if_neg (by omega), if_pos (by omega)]; congr 1; omega
      · rw [if_neg p1]
        by_cases p2 : p = i
        · subst p2
          rw [if_pos rfl, if_neg (by omega), if_pos (by omega)]
        · rw [if_neg p2]
          by_cases c : p < i ∨ S - i ≤ p
          · rw [if_pos c, if_pos (by omega)]
          · rw [if_neg c, if_neg (by omega)]))
    exact ⟨σ2, a2, b2, w1.tr w2⟩
theorem s_turn1_loop (fu : Nat) {r S : Nat} {g : Nat → Int32} : ∀ (q i fn : Nat) (σ : ow_S), i + q + 1 = S → q < fn → x_rowg σ r S (fun p => if p < i then g (p + 1) else if p = i then g 0 else g p) → ∃ σ', L_X4_beTurned_45 fu fn r (nI i) σ = some σ' ∧ x_rowg σ' r S (fun p => if p + 1 = S then g 0 else g (p + 1)) ∧ x_fr r σ σ' := by
  intro q
  induction q with
  | zero =>
    intro i fn σ hi hf h
    obtain ⟨fn, rfl⟩ : ∃ q, fn = q + 1 := ⟨fn - 1, by omega⟩
    have h60 := h.2.1
    refine ⟨σ, ?_, h.to (fun p hp => ?_), x_fr.rf r σ⟩
    · rw [L_X4_beTurned_45, h.1, show (1 : Int32) = nI 1 from rfl, n_sub (by omega), if_pos (by rw [n_le (by omega) (by omega)]; omega)]
    · by_cases c : p < i
      · rw [if_pos c, if_neg (by omega)]
      · rw [if_neg c, if_pos (by omega), if_pos (by omega)]
  | succ q ih =>
    intro i fn σ hi hf h
    obtain ⟨fn, rfl⟩ : ∃ q, fn = q + 1 := ⟨fn - 1, by omega⟩
    have h60 := h.2.1
    rw [L_X4_beTurned_45, h.1, show (1 : Int32) = nI 1 from rfl, n_sub (by omega), if_neg (by rw [n_le (by omega) (by omega)]; omega), n_add]
    obtain ⟨σ1, a1, b1, w1⟩ := s_X4_change fu h (i := i) (j := i + 1) (by omega) (by omega)
    rw [a1, e_cv, e_let]
    obtain ⟨σ2, a2, b2, w2⟩ := ih (i + 1) fn σ1 (by omega) (by omega) (b1.to (fun p hp => by
      try dsimp only
      by_cases p1 : p = i + 1
      · subst p1
        rw [if_pos rfl, if_neg (by omega), if_pos rfl, if_neg (by omega), if_pos rfl]
      · rw [if_neg p1]
        by_cases p2 : p = i
        · subst p2
          rw [if_pos rfl, if_neg (by omega), if_neg (by omega), if_pos (by omega)]
        · rw [if_neg p2]
          by_cases c : p < i
          · rw [if_pos c, if_pos (by omega)]
          · rw [if_neg c, if_neg p2, if_neg (by omega), if_neg p1]))
    exact ⟨σ2, a2, b2, w1.tr w2⟩
theorem s_turn2_loop (fu : Nat) {r S : Nat} {g : Nat → Int32} : ∀ (i fn : Nat) (σ : ow_S), i < S → i < fn → x_rowg σ r S (fun p => if p = i then g (S - 1) else if i < p then g (p - 1) else g p) → ∃ σ', L_X4_beTurned_79 fu fn r (nI i) σ = some σ' ∧ x_rowg σ' r S (fun p => if p = 0 then g (S - 1) else g (p - 1)) ∧ x_fr r σ σ' := by
  intro i
  induction i with
  | zero =>
    intro fn σ hi hf h
    obtain ⟨fn, rfl⟩ : ∃ q, fn = q + 1 := ⟨fn - 1, by omega⟩
    refine ⟨σ, ?_, h.to (fun p hp => ?_), x_fr.rf r σ⟩
    · rw [L_X4_beTurned_79, if_pos (by decide)]
    · by_cases c : p = 0
      · rw [if_pos c, if_pos c]
      · rw [if_neg c, if_neg c, if_pos (by omega)]
  | succ i ih =>
    intro fn σ hi hf h
    obtain ⟨fn, rfl⟩ : ∃ q, fn = q + 1 := ⟨fn - 1, by omega⟩
    have h60 := h.2.1
    rw [L_X4_beTurned_79, if_neg (nI_nle (by omega) (by omega)), show nI (i + 1) - (1 : Int32) = nI i from nI_pred i]
    obtain ⟨σ1, a1, b1, w1⟩ := s_X4_change fu h (i := i + 1) (j := i) (by omega) (by omega)
    rw [a1, e_cv, e_let, show nI (i + 1) + (-1 : Int32) = nI i from pk_m1 i]
    obtain ⟨σ2, a2, b2, w2⟩ := ih fn σ1 (by omega) (by omega) (b1.to (fun p hp => by
      try dsimp only
      by_cases p1 : p = i
      · subst p1
        rw [if_pos rfl, if_pos rfl, if_pos rfl]
      · rw [if_neg p1, if_neg p1]
        by_cases p2 : p = i + 1
        · subst p2
          rw [if_pos rfl, if_neg (by omega), if_neg (by omega), if_pos (by omega), Nat.add_sub_cancel]
        · rw [if_neg p2, if_neg p2]
          by_cases c : i + 1 < p
          · rw [if_pos c, if_pos (by omega)]
          · rw [if_neg c, if_neg (by omega)]))
    exact ⟨σ2, a2, b2, w1.tr w2⟩
theorem s_X4_beTurned (fu : Nat) (hfu : 1000 ≤ fu) {r how : Nat} (hh : how < 3) {l : List Int32} {σ : ow_S} (h : x_row σ.1 r l) : ∃ σ', f_X4_beTurned fu r (nI how) σ = some σ' ∧ x_row σ'.1 r (l_turn how l) ∧ x_fr r σ σ' := by
  have h60 := h.2.1
  have hg := h.g
  have e0 : nI how = (0 : Int32) ↔ how = 0 := n_eq (b := 0) (by omega) (by decide)
  have e1 : nI how = (1 : Int32) ↔ how = 1 := n_eq (b := 1) (by omega) (by decide)
  simp only [f_X4_beTurned, e0, e1]
  rcases (show how = 0 ∨ how = 1 ∨ how = 2 by omega) with rfl | rfl | rfl
  · rw [if_pos rfl]
    obtain ⟨σ2, a2, b2, w2⟩ := s_turn0_loop fu (S := l.length) (g := fun p => l.getD p 0) (l.length / 2) 0 fu σ (by omega) (by omega) (hg.to (fun p hp => by rw [if_neg (by omega)]))
    exact ⟨σ2, a2, b2.row, w2⟩
  · rw [if_neg (by decide), if_pos rfl]
    by_cases hz : l.length = 0
    · refine ⟨σ, ?_, ?_, x_fr.rf r σ⟩
      · obtain ⟨fu, rfl⟩ : ∃ q, fu = q + 1 := ⟨fu - 1, by omega⟩
        rw [L_X4_beTurned_45, h.1, hz, if_pos (by decide)]
      · have : l = [] := List.length_eq_zero_iff.mp hz
        subst this; exact h
    · obtain ⟨σ2, a2, b2, w2⟩ := s_turn1_loop fu (S := l.length) (g := fun p => l.getD p 0) (l.length - 1) 0 fu σ (by omega) (by omega) (hg.to (fun p hp => by
        rw [if_neg (by omega)]
        by_cases c : p = 0
        · rw [if_pos c, c]
        · rw [if_neg c]))
      exact ⟨σ2, a2, b2.row, w2⟩
  · rw [if_neg (by decide), if_neg (by decide), e_let, h.1]
    by_cases hz : l.length = 0
    · refine ⟨σ, ?_, ?_, x_fr.rf r σ⟩
      · obtain ⟨fu, rfl⟩ : ∃ q, fu = q + 1 := ⟨fu - 1, by omega⟩
        rw [L_X4_beTurned_79, hz, if_pos (by decide)]
      · have : l = [] := List.length_eq_zero_iff.mp hz
        subst this; exact h
    · rw [show (1 : Int32) = nI 1 from rfl, n_sub (by omega)]
      obtain ⟨σ2, a2, b2, w2⟩ := s_turn2_loop fu (S := l.length) (g := fun p => l.getD p 0) (l.length - 1) fu σ (by omega) (by omega) (hg.to (fun p hp => by
        by_cases c : p = l.length - 1
        · rw [if_pos c, c]
        · rw [if_neg c, if_neg (by omega)]))
      exact ⟨σ2, a2, b2.row, w2⟩
theorem l_cnt_cons (x : Int32) (l : List Int32) (v : Int32) : l_cnt (x :: l) v = (if x = v then 1 else 0) + l_cnt l v := by
  unfold l_cnt
  rw [List.filter_cons]
  by_cases h : x = v
  · rw [if_pos (by simp [h]), if_pos h]; simp; omega
  · rw [if_neg (by simp [h]), if_neg h]; simp
theorem l_cnt_le (l : List Int32) (v : Int32) : l_cnt l v ≤ l.length := List.length_filter_le _ _
theorem s_times_loop (fu : Nat) {r : Nat} {l : List Int32} (v : Int32) {σ : ow_S} (h : x_row σ.1 r l) : ∀ (ls : List Int32) (i c fn : Nat), (∀ j, j < ls.length → l.getD (i + j) 0 = ls.getD j 0) → i + ls.length = l.length → ls.length < fn → L_X4_timesOf_4 fu fn r v (nI c) (nI i) σ = some (nI (c + l_cnt ls v), σ) := by
  intro ls
  have h60 := h.2.1
  induction ls with
  | nil =>
    intro i c fn hC hl hf
    obtain ⟨fn, rfl⟩ : ∃ q, fn = q + 1 := ⟨fn - 1, by simp at hf; omega⟩
    simp only [List.length_nil, Nat.add_zero] at hl
    rw [L_X4_timesOf_4, h.1, if_pos (by rw [n_le (by omega) (by omega)]; omega)]
    rfl
  | cons x ls ih =>
    intro i c fn hC hl hf
    simp only [List.length_cons] at hl hf hC
    obtain ⟨fn, rfl⟩ : ∃ q, fn = q + 1 := ⟨fn - 1, by omega⟩
    have hx : σ.1 (r + 1) i = x := by rw [h.2.2 _ (by omega)]; have := hC 0 (by omega); simpa using this
    have hC' : ∀ j, j < ls.length → l.getD (i + 1 + j) 0 = ls.getD j 0 := fun j hj => by
      rw [show i + 1 + j = i + (j + 1) by omega, hC (j + 1) (by omega), List.getD_cons_succ]
    rw [L_X4_timesOf_4, h.1, if_neg (by rw [n_le (by omega) (by omega)]; omega), e_ckn _ (by omega) (by omega)]
    simp only [n_cl (a := i) (by omega), hx, L_X4_timesOf_25, e_let]
    rw [show (1 : Int32) = nI 1 from rfl, n_add, n_add, l_cnt_cons]
    by_cases hb : x = v
    · rw [if_pos hb, if_pos hb, ih (i + 1) (c + 1) fn hC' (by omega) (by omega), Nat.add_assoc]
    · rw [if_neg hb, if_neg hb, ih (i + 1) c fn hC' (by omega) (by omega), Nat.zero_add]
theorem s_X4_timesOf (fu : Nat) (hfu : 1000 ≤ fu) {r : Nat} {l : List Int32} (v : Int32) {σ : ow_S} (h : x_row σ.1 r l) : f_X4_timesOf fu r v σ = some (nI (l_cnt l v), σ) := by
  have := s_times_loop fu v h l 0 0 fu (fun j _ => by rw [Nat.zero_add]) (by omega) (by have := h.2.1; omega)
  rw [Nat.zero_add] at this
  exact this
def l_sumA (f : Int32 → Int32) (a : Int32) : List Int32 → Int32
  | [] => a
  | x :: l => l_sumA f (a + f x) l
theorem s_sum_loop (fu : Nat) {r : Nat} {l : List Int32} {σ : ow_S} (h : x_row σ.1 r l) : ∀ (ls : List Int32) (i fn : Nat) (a : Int32), (∀ j, j < ls.length → l.getD (i + j) 0 = ls.getD j 0) → i + ls.length = l.length → ls.length < fn → L_X4_sum_4 fu fn r a (nI i) σ = some (l_sumA (fun x => x) a ls, σ) ∧ L_X4_squares_4 fu fn r a (nI i) σ = some (l_sumA (fun x => x * x) a ls, σ) := by
  intro ls
  have h60 := h.2.1
  induction ls with
  | nil =>
    intro i fn a hC hl hf
    obtain ⟨fn, rfl⟩ : ∃ q, fn = q + 1 := ⟨fn - 1, by simp at hf; omega⟩
    simp only [List.length_nil, Nat.add_zero] at hl
    rw [L_X4_sum_4, L_X4_squares_4, h.1, if_pos (by rw [n_le (by omega) (by omega)]; omega), if_pos (by rw [n_le (by omega) (by omega)]; omega)]
    exact ⟨rfl, rfl⟩
  | cons x ls ih =>
    intro i fn a hC hl hf
    simp only [List.length_cons] at hl hf hC
    obtain ⟨fn, rfl⟩ : ∃ q, fn = q + 1 := ⟨fn - 1, by omega⟩
    have hx : σ.1 (r + 1) i = x := by rw [h.2.2 _ (by omega)]; have := hC 0 (by omega); simpa using this
    have hC' : ∀ j, j < ls.length → l.getD (i + 1 + j) 0 = ls.getD j 0 := fun j hj => by
      rw [show i + 1 + j = i + (j + 1) by omega, hC (j + 1) (by omega), List.getD_cons_succ]
    rw [L_X4_sum_4, L_X4_squares_4, h.1, if_neg (by rw [n_le (by omega) (by omega)]; omega), if_neg (by rw [n_le (by omega) (by omega)]; omega), e_ckn _ (by omega) (by omega), e_ckn _ (by omega) (by omega), e_ckn _ (by omega) (by omega)]
    simp only [n_cl (a := i) (by omega), hx, e_let]
    rw [show (1 : Int32) = nI 1 from rfl, n_add]
    exact ⟨(ih (i + 1) fn _ hC' (by omega) (by omega)).1, (ih (i + 1) fn _ hC' (by omega) (by omega)).2⟩
theorem s_X4_sum (fu : Nat) (hfu : 1000 ≤ fu) {r : Nat} {l : List Int32} {σ : ow_S} (h : x_row σ.1 r l) : f_X4_sum fu r σ = some (l_sumA (fun x => x) 0 l, σ) ∧ f_X4_squares fu r σ = some (l_sumA (fun x => x * x) 0 l, σ) :=
  s_sum_loop fu h l 0 fu 0 (fun j _ => by rw [Nat.zero_add]) (by omega) (by have := h.2.1; omega)
/-- the first card that came already -/
def l_tw : List Int32 → List Int32 → Int32
  | _, [] => -1
  | seen, x :: ls => if x ∈ seen then x else l_tw (seen ++ [x]) ls
theorem s_tw_in (fu : Nat) (k2 : Nat → Int32 → ow_S → Option (Int32 × ow_S)) {r i : Nat} {c : Nat → Int32} {σ : ow_S} (hi : i < 60) (h : ∀ p, p ≤ i → σ.1 (r + 1) p = c p) : ∀ (q j fn : Nat), j + q = i → q < fn → L_X4_earliestTwice_12 fu k2 fn r (nI i) (nI j) σ = if (∃ z, z < i ∧ j ≤ z ∧ c z = c i) then some (c i, σ) else k2 r (nI (i + 1)) σ := by
  intro q
  induction q with
  | zero =>
    intro j fn hj hf
    obtain ⟨fn, rfl⟩ : ∃ q, fn = q + 1 := ⟨fn - 1, by omega⟩
    rw [L_X4_earliestTwice_12, if_pos (by rw [n_le (by omega) (by omega)]; omega), e_let, if_neg (by rintro ⟨z, h1, h2, -⟩; omega), show (1 : Int32) = nI 1 from rfl, n_add]
  | succ q ih =>
    intro j fn hj hf
    obtain ⟨fn, rfl⟩ : ∃ q, fn = q + 1 := ⟨fn - 1, by omega⟩
    rw [L_X4_earliestTwice_12, if_neg (by rw [n_le (by omega) (by omega)]; omega), e_ckn _ (by omega) (by omega), e_ckn _ (by omega) (by omega), e_ckn _ (by omega) (by omega)]
    simp only [n_cl (a := i) (by omega), n_cl (a := j) (by omega), h i (Nat.le_refl _), h j (by omega), e_let]
    by_cases hb : c j = c i
    · rw [if_pos hb, if_pos ⟨j, by omega, Nat.le_refl _, hb⟩]
    · rw [if_neg hb, show (1 : Int32) = nI 1 from rfl, n_add, ih (j + 1) fn (by omega) (by omega)]
      have : (∃ z, z < i ∧ j + 1 ≤ z ∧ c z = c i) ↔ (∃ z, z < i ∧ j ≤ z ∧ c z = c i) := by
        constructor
        · rintro ⟨z, h1, h2, h3⟩; exact ⟨z, h1, by omega, h3⟩
        · rintro ⟨z, h1, h2, h3⟩
          by_cases hz : z = j
          · subst hz; exact absurd h3 hb
          · exact ⟨z, h1, by omega, h3⟩
      simp only [this, show nI 1 = (1 : Int32) from rfl]
/-- the loop over the row -/
theorem s_tw_out (fu : Nat) (hfu : 1000 ≤ fu) {r : Nat} {l : List Int32} {σ : ow_S} (h : x_row σ.1 r l) : ∀ (ls : List Int32) (i fn : Nat), l = l.take i ++ ls → i + ls.length = l.length → ls.length < fn → L_X4_earliestTwice_2 fu fn r (nI i) σ = some (l_tw (l.take i) ls, σ) := by
  intro ls
  have h60 := h.2.1
  induction ls with
  | nil =>
    intro i fn hC hl hf
    obtain ⟨fn, rfl⟩ : ∃ q, fn = q + 1 := ⟨fn - 1, by simp at hf; omega⟩
    simp only [List.length_nil, Nat.add_zero] at hl
    rw [L_X4_earliestTwice_2, h.1, if_pos (by rw [n_le (by omega) (by omega)]; omega)]
    rfl
  | cons x ls ih =>
    intro i fn hC hl hf
    simp only [List.length_cons] at hl hf
    obtain ⟨fn, rfl⟩ : ∃ q, fn = q + 1 := ⟨fn - 1, by omega⟩
    have hlt : (l.take i).length = i := by rw [List.length_take]; omega
    have hx : l.getD i 0 = x := by
      have : l[i]? = some x := by rw [hC, List.getElem?_append_right (by omega), hlt, Nat.sub_self]; rfl
      rw [List.getD_eq_getElem?_getD, this]; rfl
    have htk : l.take (i + 1) = l.take i ++ [x] := by
      have h1 : l[i]? = some x := by rw [hC, List.getElem?_append_right (by omega), hlt, Nat.sub_self]; rfl
      rw [List.take_add_one, h1]; rfl
    rw [L_X4_earliestTwice_2, h.1, if_neg (by rw [n_le (by omega) (by omega)]; omega)]
    have hin := s_tw_in fu (L_X4_earliestTwice_2 fu fn) (r := r) (i := i) (c := fun p => l.getD p 0) (σ := σ) (by omega) (fun p hp => h.2.2 p (by omega)) i 0 fu (by omega) (by omega)
    rw [show (0 : Int32) = nI 0 from rfl, hin, hx, l_tw]
    have hmem : (∃ z, z < i ∧ 0 ≤ z ∧ l.getD z 0 = x) ↔ x ∈ l.take i := by
      constructor
      · rintro ⟨z, h1, -, h3⟩
        rw [List.mem_take_iff_getElem]
        refine ⟨z, by omega, ?_⟩
        rw [← h3, List.getD_eq_getElem?_getD, List.getElem?_eq_getElem (by omega)]; rfl
      · intro hm
        rw [List.mem_take_iff_getElem] at hm
        obtain ⟨z, hz, e⟩ := hm
        refine ⟨z, by omega, by omega, ?_⟩
        rw [← e, List.getD_eq_getElem?_getD, List.getElem?_eq_getElem (by omega)]; rfl
    simp only [hmem]
    by_cases e : x ∈ l.take i
    · rw [if_pos e, if_pos e]
    · rw [if_neg e, if_neg e, ih (i + 1) fn (by rw [htk, List.append_assoc]; exact hC) (by omega) (by omega), htk]
theorem s_X4_earliestTwice (fu : Nat) (hfu : 1000 ≤ fu) {r : Nat} {l : List Int32} {σ : ow_S} (h : x_row σ.1 r l) : f_X4_earliestTwice fu r σ = some (l_tw [] l, σ) := by
  have h60 := h.2.1
  rw [f_X4_earliestTwice]
  match l, h, h60 with
  | [], h, h60 =>
    obtain ⟨fu, rfl⟩ : ∃ q, fu = q + 1 := ⟨fu - 1, by omega⟩
    rw [L_X4_earliestTwice_2, h.1, if_pos (by decide)]
    rfl
  | x :: ls, h, h60 =>
    have := s_tw_out fu hfu h ls 1 fu rfl (by simp; omega) (by simp at h60; omega)
    rw [show (1 : Int32) = nI 1 from rfl, this]
    simp [l_tw]
