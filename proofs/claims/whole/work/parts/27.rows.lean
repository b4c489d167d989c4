/-! rows of cards as lists -/
theorem l_map_range (f : Nat → Int32) {n p : Nat} (h : p < n) : ((List.range n).map f).getD p 0 = f p := by
  rw [List.getD_eq_getElem?_getD, List.getElem?_map, List.getElem?_range h]
  rfl
theorem l_len_range (f : Nat → Int32) (n : Nat) : ((List.range n).map f).length = n := by simp
def l_turn (how : Nat) (l : List Int32) : List Int32 := (List.range l.length).map (fun p => if how = 0 then l.getD (l.length - 1 - p) 0 else if how = 1 then (if p + 1 = l.length then l.getD 0 0 else l.getD (p + 1) 0) else (if p = 0 then l.getD (l.length - 1) 0 else l.getD (p - 1) 0))
def l_all (P : Nat) (way : Int32) : List Int32 := (List.range P).map (fun i => if way = 0 then nI (i + 1) else nI (P - i))
def l_but (P : Nat) (but way : Int32) : List Int32 := (l_all P way).filter (fun v => decide (v ≠ but))
def l_half : List Int32 → Nat → Nat → List Int32
  | [], _, _ => []
  | x :: l, i, f => if i % 2 = f then x :: l_half l (i + 1) f else l_half l (i + 1) f
def l_wo : List Int32 → Nat → Nat → List Int32
  | [], _, _ => []
  | x :: l, i, f => if i = f then l_wo l (i + 1) f else x :: l_wo l (i + 1) f
def l_le (l : List Int32) (n : Int32) : List Int32 := l.filter (fun v => decide (v ≤ n))
def l_cnt (l : List Int32) (v : Int32) : Nat := (l.filter (fun w => decide (w = v))).length
theorem l_half_len : ∀ (l : List Int32) (i f : Nat), (l_half l i f).length ≤ l.length := by
  intro l
  induction l with
  | nil => intro i f; exact Nat.le_refl _
  | cons x l ih =>
    intro i f
    rw [l_half]
    split
    · simp only [List.length_cons]; have := ih (i + 1) f; omega
    · simp only [List.length_cons]; have := ih (i + 1) f; omega
theorem l_wo_len : ∀ (l : List Int32) (i f : Nat), (l_wo l i f).length ≤ l.length := by
  intro l
  induction l with
  | nil => intro i f; exact Nat.le_refl _
  | cons x l ih =>
    intro i f
    rw [l_wo]
    split
    · simp only [List.length_cons]; have := ih (i + 1) f; omega
    · simp only [List.length_cons]; have := ih (i + 1) f; omega
theorem l_but_len (P : Nat) (but way : Int32) : (l_but P but way).length ≤ P := by
  have h := List.length_filter_le (fun v => decide (v ≠ but)) (l_all P way)
  rw [show (l_all P way).length = P by simp [l_all]] at h
  exact h
theorem l_le_len (l : List Int32) (n : Int32) : (l_le l n).length ≤ l.length := List.length_filter_le _ _
/-- only row cell r has changed -/
def x_fr (r : Nat) (σ σ' : ow_S) : Prop := (∀ k, k ≠ r → k ≠ r + 1 → σ'.1 k = σ.1 k) ∧ σ'.2 = σ.2
theorem x_fr.rf (r : Nat) (σ : ow_S) : x_fr r σ σ := ⟨fun _ _ _ => rfl, rfl⟩
theorem x_fr.tr {r : Nat} {a b c : ow_S} (h1 : x_fr r a b) (h2 : x_fr r b c) : x_fr r a c := ⟨fun k p q => (h2.1 k p q).trans (h1.1 k p q), h2.2.trans h1.2⟩
theorem x_row.keep {σ σ' : ow_S} {r q : Nat} {l : List Int32} (h : x_row σ.1 q l) (hw : x_fr r σ σ') (h1 : q ≠ r) (h2 : q ≠ r + 1) (h3 : q + 1 ≠ r) : x_row σ'.1 q l := by
  unfold x_row at h ⊢
  rw [hw.1 q h1 h2, hw.1 (q + 1) h3 (by omega)]
  exact h
theorem x_row.nil {σ : ow_S} {r : Nat} : x_row (ow_sI σ r 1 0).1 r [] ∧ x_fr r σ (ow_sI σ r 1 0) := ⟨⟨g_same σ r 1 0, by decide, fun p h => by simp at h⟩, fun k h1 _ => g_k _ _ h1, rfl⟩
theorem s_X4_add (fu : Nat) {r : Nat} {l : List Int32} {σ : ow_S} (h : x_row σ.1 r l) (hl : l.length < 60) (v : Int32) : ∃ σ', f_X4_add fu r v σ = some (1, σ') ∧ x_row σ'.1 r (l ++ [v]) ∧ x_fr r σ σ' := by
  obtain ⟨h1, h2, h3⟩ := h
  simp only [f_X4_add, h1]
  rw [if_pos (by rw [show (60 : Int32) = nI 60 from rfl, n_lt (by omega) (by decide)]; exact hl), e_ckn _ (by omega) hl]
  simp only [n_cl (a := l.length) (by omega), e_let]
  refine ⟨_, rfl, ⟨?_, ?_, fun p hp => ?_⟩, fun k hk1 hk2 => ?_, rfl⟩
  · rw [g_same, g_k _ _ (show r ≠ r + 1 by omega), h1, show (1 : Int32) = nI 1 from rfl, n_add]; simp
  · simp; omega
  · rw [g_k _ _ (show r + 1 ≠ r by omega), g_row]
    simp only [List.length_append, List.length_cons, List.length_nil] at hp
    by_cases hq : p = l.length
    · subst hq; simp [upd]
    · rw [List.getD_eq_getElem?_getD, List.getElem?_append_left (by omega), ← List.getD_eq_getElem?_getD, ← h3 p (by omega)]; simp [upd, hq]
  · rw [g_k _ _ hk1, g_k _ _ hk2]
theorem s_X4_addF (fu : Nat) {r : Nat} {l : List Int32} {σ : ow_S} (h : x_row σ.1 r l) (hl : ¬ l.length < 60) (v : Int32) : f_X4_add fu r v σ = some (0, σ) := by
  simp only [f_X4_add, h.1]
  rw [if_neg (by rw [show (60 : Int32) = nI 60 from rfl, n_lt (by have := h.2.1; omega) (by decide)]; exact hl)]
theorem s_X4_has (fu r i : Nat) {l : List Int32} {σ : ow_S} (h : x_row σ.1 r l) (hi : i < 2 ^ 31) : f_X4_has fu r (nI i) σ = some (if i < l.length then 1 else 0, σ) := by
  simp only [f_X4_has, h.1]
  rw [if_neg (nI_pos hi)]
  by_cases hl : i < l.length
  · rw [if_neg (by rw [n_le (by have := h.2.1; omega) hi]; omega), if_pos hl]
  · rw [if_pos (by rw [n_le (by have := h.2.1; omega) hi]; omega), if_neg hl]
theorem s_X4_become_loop (fu : Nat) {r q : Nat} (h1 : q ≠ r) (h2 : q ≠ r + 1) (h3 : q + 1 ≠ r) {l : List Int32} : ∀ (ls acc : List Int32) (fn : Nat) (σ : ow_S), x_row σ.1 q l → x_row σ.1 r acc → l = acc ++ ls → ls.length < fn → ∃ σ', L_X4_become_7 fu fn r q (nI acc.length) σ = some σ' ∧ x_row σ'.1 r l ∧ x_fr r σ σ' := by
  intro ls
  induction ls with
  | nil =>
    intro acc fn σ hq hr hl hf
    obtain ⟨fn, rfl⟩ : ∃ q, fn = q + 1 := ⟨fn - 1, by simp at hf; omega⟩
    rw [List.append_nil] at hl
    subst hl
    refine ⟨σ, ?_, hr, x_fr.rf r σ⟩
    rw [L_X4_become_7, hq.1, if_pos (by rw [n_le (by have := hq.2.1; omega) (by have := hq.2.1; omega)]; exact Nat.le_refl _)]
  | cons x ls ih =>
    intro acc fn σ hq hr hl hf
    simp only [List.length_cons] at hf
    obtain ⟨fn, rfl⟩ : ∃ q, fn = q + 1 := ⟨fn - 1, by omega⟩
    have hlen : l.length = acc.length + (ls.length + 1) := by rw [hl]; simp
    have h60 := hq.2.1
    have hx : σ.1 (q + 1) acc.length = x := by rw [hq.2.2 _ (by omega), hl, List.getD_eq_getElem?_getD, List.getElem?_append_right (Nat.le_refl _)]; simp
    rw [L_X4_become_7, hq.1, if_neg (by rw [n_le (by omega) (by omega)]; omega), e_ckn _ (by omega) (by omega)]
    simp only [n_cl (a := acc.length) (by omega), hx]
    obtain ⟨σ1, a1, b1, w1⟩ := s_X4_add fu hr (by omega) x
    rw [a1, e_cl, e_let, show (1 : Int32) = nI 1 from rfl, n_add]
    obtain ⟨σ2, a2, b2, w2⟩ := ih (acc ++ [x]) fn σ1 (hq.keep w1 h1 h2 h3) b1 (by rw [hl]; simp) (by omega)
    rw [List.length_append] at a2
    exact ⟨σ2, a2, b2, w1.tr w2⟩
theorem s_X4_become (fu : Nat) (hfu : 1000 ≤ fu) {r q : Nat} (h1 : q ≠ r) (h2 : q ≠ r + 1) (h3 : q + 1 ≠ r) {l : List Int32} {σ : ow_S} (hq : x_row σ.1 q l) : ∃ σ', f_X4_become fu r q σ = some σ' ∧ x_row σ'.1 r l ∧ x_fr r σ σ' := by
  obtain ⟨n1, n2⟩ := x_row.nil (σ := σ) (r := r)
  obtain ⟨σ2, a2, b2, w2⟩ := s_X4_become_loop fu h1 h2 h3 l [] fu _ (hq.keep n2 h1 h2 h3) n1 rfl (by have := hq.2.1; omega)
  exact ⟨σ2, a2, b2, n2.tr w2⟩
theorem s_X4_but_loop (fu : Nat) {r P : Nat} (hP : P ≤ 52) (but way : Int32) : ∀ (q i : Nat) (acc : List Int32) (fn : Nat) (σ : ow_S), x_row σ.1 r acc → acc.length ≤ i → i + q = P → q < fn → ∃ σ', L_X4_becomeAllBut_8 fu fn r but (nI P) way (nI (i + 1)) σ = some σ' ∧ x_row σ'.1 r (acc ++ (((List.range' i q).map (fun i => if way = 0 then nI (i + 1) else nI (P - i))).filter (fun v => decide (v ≠ but)))) ∧ x_fr r σ σ' := by
  intro q
  induction q with
  | zero =>
    intro i acc fn σ hr ha hi hf
    obtain ⟨fn, rfl⟩ : ∃ q, fn = q + 1 := ⟨fn - 1, by omega⟩
    refine ⟨σ, ?_, by simpa using hr, x_fr.rf r σ⟩
    rw [L_X4_becomeAllBut_8, if_pos (by rw [n_lt (by omega) (by omega)]; omega)]
  | succ q ih =>
    intro i acc fn σ hr ha hi hf
    obtain ⟨fn, rfl⟩ : ∃ q, fn = q + 1 := ⟨fn - 1, by omega⟩
    rw [L_X4_becomeAllBut_8, if_neg (by rw [n_lt (by omega) (by omega)]; omega)]
    have e1 : (nI P + (1 : Int32)) - nI (i + 1) = nI (P - i) := by
      rw [show (1 : Int32) = nI 1 from rfl, n_add, n_sub (by omega)]
      congr 1; omega
    have key : ∀ v : Int32, v = (if way = 0 then nI (i + 1) else nI (P - i)) → ∃ σ', L_X4_becomeAllBut_29 fu (L_X4_becomeAllBut_8 fu fn) r but (nI P) way (nI (i + 1)) v σ = some σ' ∧ x_row σ'.1 r (acc ++ (((List.range' i (q + 1)).map (fun i => if way = 0 then nI (i + 1) else nI (P - i))).filter (fun v => decide (v ≠ but)))) ∧ x_fr r σ σ' := by
      intro v hv
      simp only [L_X4_becomeAllBut_29, L_X4_becomeAllBut_44, e_let]
      rw [List.range'_succ, List.map_cons, List.filter_cons, ← hv]
      by_cases hb : v = but
      · rw [if_pos hb, if_neg (by simp [hb]), show (1 : Int32) = nI 1 from rfl, n_add]
        exact ih (i + 1) acc fn σ hr (by omega) (by omega) (by omega)
      · rw [if_neg hb, if_pos (by simp [hb])]
        obtain ⟨σ1, a1, b1, w1⟩ := s_X4_add fu hr (by omega) v
        rw [a1, e_cl, show (1 : Int32) = nI 1 from rfl, n_add]
        obtain ⟨σ2, a2, b2, w2⟩ := ih (i + 1) (acc ++ [v]) fn σ1 b1 (by simp; omega) (by omega) (by omega)
        exact ⟨σ2, a2, by simpa using b2, w1.tr w2⟩
    by_cases hw : way = 0
    · rw [if_pos hw]
      exact key _ (by rw [if_pos hw])
    · rw [if_neg hw, e1]
      exact key _ (by rw [if_neg hw])
theorem s_X4_becomeAllBut (fu : Nat) (hfu : 1000 ≤ fu) {r P : Nat} (hP : P ≤ 52) (but way : Int32) (σ : ow_S) : ∃ σ', f_X4_becomeAllBut fu r but (nI P) way σ = some σ' ∧ x_row σ'.1 r (l_but P but way) ∧ x_fr r σ σ' := by
  obtain ⟨n1, n2⟩ := x_row.nil (σ := σ) (r := r)
  obtain ⟨σ2, a2, b2, w2⟩ := s_X4_but_loop fu hP but way P 0 [] fu _ n1 (Nat.le_refl _) (by omega) (by omega)
  refine ⟨σ2, a2, ?_, n2.tr w2⟩
  rw [← List.range_eq_range'] at b2
  exact b2
theorem s_X4_half_loop (fu : Nat) {r q f : Nat} (hf2 : f < 2) (h1 : q ≠ r) (h2 : q ≠ r + 1) (h3 : q + 1 ≠ r) {l : List Int32} : ∀ (ls : List Int32) (i : Nat) (acc : List Int32) (fn : Nat) (σ : ow_S), x_row σ.1 q l → x_row σ.1 r acc → acc.length ≤ i → (∀ j, j < ls.length → l.getD (i + j) 0 = ls.getD j 0) → i + ls.length = l.length → ls.length < fn → ∃ σ', L_X4_becomeEverySecond_7 fu fn r q (nI f) (nI i) σ = some σ' ∧ x_row σ'.1 r (acc ++ l_half ls i f) ∧ x_fr r σ σ' := by
  intro ls
  induction ls with
  | nil =>
    intro i acc fn σ hq hr ha hC hl hf
    obtain ⟨fn, rfl⟩ : ∃ q, fn = q + 1 := ⟨fn - 1, by simp at hf; omega⟩
    have h60 := hq.2.1
    simp only [List.length_nil, Nat.add_zero] at hl
    refine ⟨σ, ?_, by simpa [l_half] using hr, x_fr.rf r σ⟩
    rw [L_X4_becomeEverySecond_7, hq.1, if_pos (by rw [n_le (by omega) (by omega)]; omega)]
  | cons x ls ih =>
    intro i acc fn σ hq hr ha hC hl hf
    simp only [List.length_cons] at hl hf hC
    obtain ⟨fn, rfl⟩ : ∃ q, fn = q + 1 := ⟨fn - 1, by omega⟩
    have h60 := hq.2.1
    have hx : σ.1 (q + 1) i = x := by rw [hq.2.2 _ (by omega)]; have := hC 0 (by omega); simpa using this
    have hm : i % 2 < 2 := Nat.mod_lt _ (by decide)
    rw [L_X4_becomeEverySecond_7, hq.1, if_neg (by rw [n_le (by omega) (by omega)]; omega), show ow_irem (nI i) (2 : Int32) = nI (i % 2) from n_rem (b := 2) (by omega) (by decide) (by decide), l_half]
    have hC' : ∀ j, j < ls.length → l.getD (i + 1 + j) 0 = ls.getD j 0 := fun j hj => by
      rw [show i + 1 + j = i + (j + 1) by omega, hC (j + 1) (by omega), List.getD_cons_succ]
    by_cases hb : i % 2 = f
    · rw [if_pos (by rw [hb]), if_pos hb, e_ckn _ (by omega) (by omega)]
      simp only [n_cl (a := i) (by omega), hx]
      obtain ⟨σ1, a1, b1, w1⟩ := s_X4_add fu hr (by omega) x
      rw [a1, e_cl]
      simp only [L_X4_becomeEverySecond_33, e_let]
      rw [show (1 : Int32) = nI 1 from rfl, n_add]
      obtain ⟨σ2, a2, b2, w2⟩ := ih (i + 1) (acc ++ [x]) fn σ1 (hq.keep w1 h1 h2 h3) b1 (by simp; omega) hC' (by omega) (by omega)
      exact ⟨σ2, a2, by simpa using b2, w1.tr w2⟩
    · rw [if_neg (by rw [n_eq (by omega) (by omega)]; exact hb), if_neg hb]
      simp only [L_X4_becomeEverySecond_33, e_let]
      rw [show (1 : Int32) = nI 1 from rfl, n_add]
      exact ih (i + 1) acc fn σ hq hr (by omega) hC' (by omega) (by omega)
theorem s_X4_becomeEverySecond (fu : Nat) (hfu : 1000 ≤ fu) {r q f : Nat} (hf2 : f < 2) (h1 : q ≠ r) (h2 : q ≠ r + 1) (h3 : q + 1 ≠ r) {l : List Int32} {σ : ow_S} (hq : x_row σ.1 q l) : ∃ σ', f_X4_becomeEverySecond fu r q (nI f) σ = some σ' ∧ x_row σ'.1 r (l_half l 0 f) ∧ x_fr r σ σ' := by
  obtain ⟨n1, n2⟩ := x_row.nil (σ := σ) (r := r)
  obtain ⟨σ2, a2, b2, w2⟩ := s_X4_half_loop fu hf2 h1 h2 h3 l 0 [] fu _ (hq.keep n2 h1 h2 h3) n1 (Nat.le_refl _) (fun j _ => by rw [Nat.zero_add]) (by omega) (by have := hq.2.1; omega)
  exact ⟨σ2, a2, b2, n2.tr w2⟩
theorem s_X4_wo_loop (fu : Nat) {r q f : Nat} (hf2 : f < 1000) (h1 : q ≠ r) (h2 : q ≠ r + 1) (h3 : q + 1 ≠ r) {l : List Int32} : ∀ (ls : List Int32) (i : Nat) (acc : List Int32) (fn : Nat) (σ : ow_S), x_row σ.1 q l → x_row σ.1 r acc → acc.length ≤ i → (∀ j, j < ls.length → l.getD (i + j) 0 = ls.getD j 0) → i + ls.length = l.length → ls.length < fn → ∃ σ', L_X4_becomeWithout_7 fu fn r q (nI f) (nI i) σ = some σ' ∧ x_row σ'.1 r (acc ++ l_wo ls i f) ∧ x_fr r σ σ' := by
  intro ls
  induction ls with
  | nil =>
    intro i acc fn σ hq hr ha hC hl hf
    obtain ⟨fn, rfl⟩ : ∃ q, fn = q + 1 := ⟨fn - 1, by simp at hf; omega⟩
    have h60 := hq.2.1
    simp only [List.length_nil, Nat.add_zero] at hl
    refine ⟨σ, ?_, by simpa [l_wo] using hr, x_fr.rf r σ⟩
    rw [L_X4_becomeWithout_7, hq.1, if_pos (by rw [n_le (by omega) (by omega)]; omega)]
  | cons x ls ih =>
    intro i acc fn σ hq hr ha hC hl hf
    simp only [List.length_cons] at hl hf hC
    obtain ⟨fn, rfl⟩ : ∃ q, fn = q + 1 := ⟨fn - 1, by omega⟩
    have h60 := hq.2.1
    have hx : σ.1 (q + 1) i = x := by rw [hq.2.2 _ (by omega)]; have := hC 0 (by omega); simpa using this
    rw [L_X4_becomeWithout_7, hq.1, if_neg (by rw [n_le (by omega) (by omega)]; omega), l_wo]
    have hC' : ∀ j, j < ls.length → l.getD (i + 1 + j) 0 = ls.getD j 0 := fun j hj => by
      rw [show i + 1 + j = i + (j + 1) by omega, hC (j + 1) (by omega), List.getD_cons_succ]
    by_cases hb : i = f
    · rw [if_pos (by rw [hb]), if_pos hb]
      simp only [L_X4_becomeWithout_31, e_let]
      rw [show (1 : Int32) = nI 1 from rfl, n_add]
      exact ih (i + 1) acc fn σ hq hr (by omega) hC' (by omega) (by omega)
    · rw [if_neg (by rw [n_eq (by omega) (by omega)]; exact hb), if_neg hb, e_ckn _ (by omega) (by omega)]
      simp only [n_cl (a := i) (by omega), hx]
      obtain ⟨σ1, a1, b1, w1⟩ := s_X4_add fu hr (by omega) x
      rw [a1, e_cl]
      simp only [L_X4_becomeWithout_31, e_let]
      rw [show (1 : Int32) = nI 1 from rfl, n_add]
      obtain ⟨σ2, a2, b2, w2⟩ := ih (i + 1) (acc ++ [x]) fn σ1 (hq.keep w1 h1 h2 h3) b1 (by simp; omega) hC' (by omega) (by omega)
      exact ⟨σ2, a2, by simpa using b2, w1.tr w2⟩
theorem s_X4_becomeWithout (fu : Nat) (hfu : 1000 ≤ fu) {r q f : Nat} (hf2 : f < 1000) (h1 : q ≠ r) (h2 : q ≠ r + 1) (h3 : q + 1 ≠ r) {l : List Int32} {σ : ow_S} (hq : x_row σ.1 q l) : ∃ σ', f_X4_becomeWithout fu r q (nI f) σ = some σ' ∧ x_row σ'.1 r (l_wo l 0 f) ∧ x_fr r σ σ' := by
  obtain ⟨n1, n2⟩ := x_row.nil (σ := σ) (r := r)
  obtain ⟨σ2, a2, b2, w2⟩ := s_X4_wo_loop fu hf2 h1 h2 h3 l 0 [] fu _ (hq.keep n2 h1 h2 h3) n1 (Nat.le_refl _) (fun j _ => by rw [Nat.zero_add]) (by omega) (by have := hq.2.1; omega)
  exact ⟨σ2, a2, b2, n2.tr w2⟩
/-- cards above n go; places from i on hold still what they held -/
theorem s_X4_drop_loop (fu : Nat) {r : Nat} (n : Int32) {S : Nat} (hS : S ≤ 60) : ∀ (ls : List Int32) (i : Nat) (acc : List Int32) (fn : Nat) (σ : ow_S), x_row σ.1 r acc → acc.length ≤ i → (∀ j, j < ls.length → σ.1 (r + 1) (i + j) = ls.getD j 0) → i + ls.length = S → ls.length < fn → ∃ σ', L_X4_dropAbove_12 fu fn r n (nI S) (nI i) σ = some σ' ∧ x_row σ'.1 r (acc ++ l_le ls n) ∧ x_fr r σ σ' := by
  intro ls
  induction ls with
  | nil =>
    intro i acc fn σ hr ha hC hl hf
    obtain ⟨fn, rfl⟩ : ∃ q, fn = q + 1 := ⟨fn - 1, by simp at hf; omega⟩
    simp only [List.length_nil, Nat.add_zero] at hl
    refine ⟨σ, ?_, by simpa [l_le] using hr, x_fr.rf r σ⟩
    rw [L_X4_dropAbove_12, if_pos (by rw [n_le (by omega) (by omega)]; omega)]
  | cons x ls ih =>
    intro i acc fn σ hr ha hC hl hf
    simp only [List.length_cons] at hl hf hC
    obtain ⟨fn, rfl⟩ : ∃ q, fn = q + 1 := ⟨fn - 1, by omega⟩
    have hx : σ.1 (r + 1) i = x := by have := hC 0 (by omega); simpa using this
    have hC' : ∀ j, j < ls.length → σ.1 (r + 1) (i + 1 + j) = ls.getD j 0 := fun j hj => by
      rw [show i + 1 + j = i + (j + 1) by omega, hC (j + 1) (by omega), List.getD_cons_succ]
    rw [L_X4_dropAbove_12, if_neg (by rw [n_le (by omega) (by omega)]; omega), e_ckn _ (by omega) (by omega)]
    simp only [n_cl (a := i) (by omega), hx, l_le, List.filter_cons]
    by_cases hb : n < x
    · rw [if_pos hb, if_neg (by simpa using hb)]
      simp only [L_X4_dropAbove_38, e_let]
      rw [show (1 : Int32) = nI 1 from rfl, n_add]
      exact ih (i + 1) acc fn σ hr (by omega) hC' (by omega) (by omega)
    · rw [if_neg hb, if_pos (by simpa using hb), e_ckn _ (by omega) (by omega)]
      have hadd := s_X4_add fu hr (by omega) x
      obtain ⟨σ1, a1, b1, w1⟩ := hadd
      have hk : ∀ j, j < ls.length → σ1.1 (r + 1) (i + 1 + j) = ls.getD j 0 := by
        intro j hj
        have a1' := a1
        simp only [f_X4_add, hr.1] at a1'
        rw [if_pos (by rw [show (60 : Int32) = nI 60 from rfl, n_lt (by omega) (by decide)]; omega), e_ckn _ (by omega) (by omega)] at a1'
        simp only [n_cl (a := acc.length) (by omega), e_let, Option.some.injEq, Prod.mk.injEq, true_and] at a1'
        rw [← a1', g_k _ _ (show r + 1 ≠ r by omega), g_j _ _ (show i + 1 + j ≠ acc.length by omega)]
        exact hC' j hj
      rw [a1, e_cl]
      simp only [L_X4_dropAbove_38, e_let]
      rw [show (1 : Int32) = nI 1 from rfl, n_add]
      obtain ⟨σ2, a2, b2, w2⟩ := ih (i + 1) (acc ++ [x]) fn σ1 b1 (by simp; omega) hk (by omega) (by omega)
      exact ⟨σ2, a2, by simpa [l_le] using b2, w1.tr w2⟩
theorem s_X4_dropAbove (fu : Nat) (hfu : 1000 ≤ fu) {r : Nat} {l : List Int32} {σ : ow_S} (hr : x_row σ.1 r l) (n : Int32) : ∃ σ', f_X4_dropAbove fu r n σ = some σ' ∧ x_row σ'.1 r (l_le l n) ∧ x_fr r σ σ' := by
  obtain ⟨n1, n2⟩ := x_row.nil (σ := σ) (r := r)
  simp only [f_X4_dropAbove, e_let, hr.1]
  obtain ⟨σ2, a2, b2, w2⟩ := s_X4_drop_loop fu n hr.2.1 l 0 [] fu _ n1 (Nat.le_refl _) (fun j hj => by rw [Nat.zero_add, g_k _ _ (show r + 1 ≠ r by omega)]; exact hr.2.2 j hj) (by omega) (by have := hr.2.1; omega)
  exact ⟨σ2, a2, b2, n2.tr w2⟩
