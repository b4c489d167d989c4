/-! the class: a head on its way -/
theorem s_X7_pass (fu : Nat) (hfu : 1000 ≤ fu) {t c k mo p : Nat} {b f s : Int32} {T : Nat → List Nat} (ht : 12 < t) (hc : 12 < c ∨ c = 6) {σ : ow_S} (hR : σ.2.2 10 2 = some t) (hT : x_text σ.1 t T) (hH : x_head σ.1 c k mo b f s) (hp : p < 1000) (h5 : σ.1 11 5 = nI mo) (card : Int32) :
    ∃ σ', f_X7_pass fu c card (nI p) σ = some σ' ∧ (σ'.1 11 0, σ'.1 11 1) = h_step T (σ.1 11 4) k mo b card p (σ.1 11 0, σ.1 11 1) ∧ σ'.1 11 4 = σ.1 11 4 ∧ σ'.1 11 5 = σ.1 11 5 ∧ x_fw σ σ' := by
  have hc11 : c ≠ 11 := by omega
  have hc12 : c ≠ 12 := by omega
  simp only [f_X7_pass, s_X0_sees fu hH hp, e_cl]
  by_cases hs : h_sees k mo p = true
  · rw [if_pos hs, if_neg (by decide)]
    simp only [f_X7_meet, e_let, e_cv]
    have hT1 : x_text (ow_sI (ow_sI σ 11 2 card) 11 3 (nI p)).1 t T := by
      unfold x_text at hT ⊢
      rw [g_k _ _ (show t ≠ 11 by omega), g_k _ _ (show t ≠ 11 by omega), g_k _ _ (show t + 1 ≠ 11 by omega), g_k _ _ (show t + 1 ≠ 11 by omega), g_k _ _ (show t + 2 ≠ 11 by omega), g_k _ _ (show t + 2 ≠ 11 by omega)]
      exact hT
    obtain ⟨σ1, a1, b1, e1⟩ := s_X7_tells fu hfu ht (p := 0) (by decide) (σ := ow_sI (ow_sI σ 11 2 card) 11 3 (nI p)) hR hT1
    have hN1 : σ1.1 11 = (ow_sI (ow_sI σ 11 2 card) 11 3 (nI p)).1 11 := b1 11 (by decide)
    have hT2 : x_text σ1.1 t T := by
      unfold x_text at hT1 ⊢
      rw [b1 t (by omega), b1 (t + 1) (by omega), b1 (t + 2) (by omega)]
      exact hT1
    obtain ⟨σ2, a2, b2, e2⟩ := s_X7_tells fu hfu ht (p := 1) (by decide) (σ := σ1) (by rw [e1]; exact hR) hT2
    rw [hN1] at a2
    rw [show (0 : Int32) = nI 0 from rfl, show (1 : Int32) = nI 1 from rfl, a1, e_cl, a2, e_cl]
    have hc2 : σ2.1 c = σ.1 c := by rw [b2 c hc12, b1 c hc12, g_k _ _ hc11, g_k _ _ hc11]
    have hH2 : x_head σ2.1 c k mo b f s := by unfold x_head at hH ⊢; rw [hc2]; exact hH
    have hb : σ2.1 c 2 = b := hH2.2.2.1
    rw [s_X0_keepsFirst fu hH2 hp, e_cl, s_X0_lowest, e_cl, s_X0_lowest, e_cl, hb]
    simp only [f_X7_keepBoth, e_let, e_cv]
    refine ⟨_, rfl, ?_, ?_, ?_, ?_, ?_⟩
    · simp only [g_row, upd, g_same, h_step]
      rw [if_pos hs]
      simp [h5]
    · simp [g_row, upd, b2 11 (by decide), hN1]
    · simp [g_row, upd, b2 11 (by decide), hN1]
    · intro q h1 h2
      rw [g_k _ _ h1, g_k _ _ h1, b2 q h2, b1 q h2, g_k _ _ h1, g_k _ _ h1]
    · rw [g_2, g_2, e2, e1, g_2, g_2]
  · have hs' : h_sees k mo p = false := by simpa using hs
    rw [hs']
    refine ⟨σ, rfl, ?_, rfl, rfl, x_fw.rf σ⟩
    rw [h_step, if_neg hs]
theorem x_text.fw {σ σ' : ow_S} {t : Nat} {T : Nat → List Nat} (h : x_text σ.1 t T) (hw : x_fw σ σ') (ht : 12 < t) : x_text σ'.1 t T := by
  unfold x_text at h ⊢
  rw [hw.1 t (by omega) (by omega), hw.1 (t + 1) (by omega) (by omega), hw.1 (t + 2) (by omega) (by omega)]
  exact h
theorem x_head.fw {σ σ' : ow_S} {c k mo : Nat} {b f s : Int32} (h : x_head σ.1 c k mo b f s) (hw : x_fw σ σ') (hc : 12 < c ∨ c = 6) : x_head σ'.1 c k mo b f s := by
  unfold x_head at h ⊢
  rw [hw.1 c (by omega) (by omega)]
  exact h
theorem s_X7_goAlong_loop (fu : Nat) (hfu : 1000 ≤ fu) {t c k mo r m : Nat} {b f s : Int32} {T : Nat → List Nat} (ht : 12 < t) (hc : 12 < c ∨ c = 6) (hr : 12 < r ∨ r < 10) (hm : m ≤ 60) : ∀ (ls : List Int32) (i fn : Nat) (σ : ow_S), σ.2.2 10 2 = some t → x_text σ.1 t T → x_head σ.1 c k mo b f s → σ.1 11 5 = nI mo → (∃ S, σ.1 r 1 = nI S ∧ m ≤ S ∧ S ≤ 60) → (∀ j, j < ls.length → σ.1 (r + 1) (i + j) = ls.getD j 0) → i + ls.length = m → ls.length < fn →
    ∃ σ', L_X7_goAlong_3 fu fn c r (nI m) (nI i) σ = some σ' ∧ (σ'.1 11 0, σ'.1 11 1) = h_go T (σ.1 11 4) k mo b ls i (σ.1 11 0, σ.1 11 1) ∧ σ'.1 11 4 = σ.1 11 4 ∧ σ'.1 11 5 = σ.1 11 5 ∧ x_fw σ σ' := by
  intro ls
  induction ls with
  | nil =>
    intro i fn σ hR hT hH h5 hS hC hi hf
    obtain ⟨fn, rfl⟩ : ∃ q, fn = q + 1 := ⟨fn - 1, by simp at hf; omega⟩
    refine ⟨σ, ?_, rfl, rfl, rfl, x_fw.rf σ⟩
    rw [L_X7_goAlong_3, if_pos (by rw [n_le (by omega) (by simp at hi; omega)]; simp at hi; omega)]
  | cons x ls ih =>
    intro i fn σ hR hT hH h5 hS hC hi hf
    simp only [List.length_cons] at hi hf hC
    obtain ⟨fn, rfl⟩ : ∃ q, fn = q + 1 := ⟨fn - 1, by omega⟩
    obtain ⟨S, hS1, hS2, hS3⟩ := hS
    have hx : σ.1 (r + 1) i = x := by have := hC 0 (by omega); simpa using this
    rw [L_X7_goAlong_3, if_neg (by rw [n_le (by omega) (by omega)]; omega), hS1, if_neg (by rw [n_le (by omega) (by omega)]; omega), e_ckn _ (by omega) (by omega), n_cl (by omega), hx]
    obtain ⟨σ1, a1, b1, c1, d1, w1⟩ := s_X7_pass fu hfu ht hc hR hT hH (p := i) (by omega) h5 x
    rw [a1, e_cv, e_let, show (1 : Int32) = nI 1 from rfl, n_add]
    obtain ⟨σ2, a2, b2, c2, d2, w2⟩ := ih (i + 1) fn σ1 (by rw [w1.2]; exact hR) (hT.fw w1 ht) (hH.fw w1 hc) (by rw [d1]; exact h5) ⟨S, by rw [w1.1 r (by omega) (by omega)]; exact hS1, hS2, hS3⟩ (fun j hj => by
      rw [w1.1 (r + 1) (by omega) (by omega), show i + 1 + j = i + (j + 1) by omega, hC (j + 1) (by omega), List.getD_cons_succ]) (by omega) (by omega)
    refine ⟨σ2, a2, ?_, c2.trans c1, d2.trans d1, w1.tr w2⟩
    rw [b2, b1, c1, h_go]
theorem s_X7_goAlong (fu : Nat) (hfu : 1000 ≤ fu) {t c k mo r : Nat} {b f s : Int32} {T : Nat → List Nat} (ht : 12 < t) (hc : 12 < c ∨ c = 6) (hr : 12 < r ∨ r < 10) {l : List Int32} {m : Nat} {σ : ow_S} (hR : σ.2.2 10 2 = some t) (hT : x_text σ.1 t T) (hH : x_head σ.1 c k mo b f s) (h5 : σ.1 11 5 = nI mo) (hl : x_row σ.1 r l) (hm : m ≤ l.length) :
    ∃ σ', f_X7_goAlong fu c r (nI m) σ = some σ' ∧ (σ'.1 11 0, σ'.1 11 1) = h_go T (σ.1 11 4) k mo b (l.take m) 0 (σ.1 11 0, σ.1 11 1) ∧ σ'.1 11 4 = σ.1 11 4 ∧ σ'.1 11 5 = σ.1 11 5 ∧ x_fw σ σ' := by
  obtain ⟨h1, h2, h3⟩ := hl
  have hlen : (l.take m).length = m := by rw [List.length_take]; omega
  have := s_X7_goAlong_loop fu hfu (m := m) ht hc hr (by omega) (l.take m) 0 fu σ hR hT hH h5 ⟨l.length, h1, hm, h2⟩ (fun j hj => by
    rw [hlen] at hj
    rw [Nat.zero_add, h3 j (by omega)]
    simp [List.getD_eq_getElem?_getD, List.getElem?_take, hj]) (by rw [hlen]; omega) (by rw [hlen]; omega)
  exact this
theorem x_row.fw {σ σ' : ow_S} {c : Nat} {l : List Int32} (h : x_row σ.1 c l) (hw : x_fw σ σ') (hc : 12 < c ∨ c < 10) : x_row σ'.1 c l := by
  unfold x_row at h ⊢
  rw [hw.1 c (by omega) (by omega), hw.1 (c + 1) (by omega) (by omega)]
  exact h
theorem s_X0_goings (fu : Nat) {c k mo : Nat} {b f s : Int32} {σ : ow_S} (h : x_head σ.1 c k mo b f s) : f_X0_goings fu c σ = some (nI (h_times k mo), σ) := by
  obtain ⟨hk, hm, -, -, -, k6, m10⟩ := h
  have e5 : nI k = (5 : Int32) ↔ k = 5 := n_eq (b := 5) (by omega) (by decide)
  have ed : nI mo / (5 : Int32) = nI (mo / 5) := n_div (b := 5) (by omega) (by decide) (by decide)
  simp only [f_X0_goings, hk, hm, e5, ed, h_times]
  by_cases k5 : k = 5
  · rw [if_pos k5, if_pos k5, show (2 : Int32) = nI 2 from rfl, n_add]
  · rw [if_neg k5, if_neg k5]; rfl
theorem h_bd_x (v : Int32) : ow_max (-1000000) (ow_min 1000000 v) = h_bd v := by
  unfold ow_max ow_min h_bd
  by_cases h1 : v < 1000000
  · rw [if_pos h1]
    have h2 : ¬ (1000000 : Int32) < v := by rw [Int32.not_lt]; exact Int32.le_of_lt h1
    by_cases h3 : (-1000000 : Int32) < v
    · rw [if_pos h3, if_neg (by rw [Int32.not_lt]; exact Int32.le_of_lt h3), if_neg h2]
    · rw [if_neg h3]
      by_cases h4 : v < -1000000
      · rw [if_pos h4]
      · rw [if_neg h4, if_neg h2]
        exact Int32.le_antisymm (Int32.not_lt.mp h4) (Int32.not_lt.mp h3)
  · rw [if_neg h1, if_pos (by decide)]
    have h2 : ¬ v < -1000000 := fun h => h1 (Int32.lt_trans h (by decide))
    rw [if_neg h2]
    by_cases h3 : (1000000 : Int32) < v
    · rw [if_pos h3]
    · rw [if_neg h3]
      exact Int32.le_antisymm (Int32.not_lt.mp h1) (Int32.not_lt.mp h3)
theorem s_X7_says_loop (fu : Nat) (hfu : 1000 ≤ fu) {t c k mo r : Nat} {b f s : Int32} {T : Nat → List Nat} (ht : 12 < t) (hc : 12 < c ∨ c = 6) (hr : 12 < r ∨ r < 10) {l : List Int32} : ∀ (q g fn : Nat) (σ : ow_S), σ.2.2 10 2 = some t → x_text σ.1 t T → x_head σ.1 c k mo b f s → σ.1 11 5 = nI mo → x_row σ.1 r l → g + q = h_times k mo → q < fn →
    ∃ σ', L_X7_says_11 fu fn c r (nI g) σ = some (h_bd (t_at (T 2) (h_many T (σ.1 11 4) k mo b l q (σ.1 11 0, σ.1 11 1)).1 (h_many T (σ.1 11 4) k mo b l q (σ.1 11 0, σ.1 11 1)).2 0 (nI l.length) (σ.1 11 4) (nI mo)), σ') ∧ x_fw σ σ' := by
  intro q
  induction q with
  | zero =>
    intro g fn σ hR hT hH h5 hl hg hf
    obtain ⟨fn, rfl⟩ : ∃ z, fn = z + 1 := ⟨fn - 1, by omega⟩
    have ht7 : h_times k mo < 10 := by have := hH.2.2.2.2.2; unfold h_times; split <;> omega
    rw [L_X7_says_11, s_X0_goings fu hH, e_cl, if_pos (by rw [n_le (by omega) (by omega)]; omega)]
    simp only [f_X7_meet, e_let, e_cv, f_X7_tellsBounded, hl.1]
    have hT1 : x_text (ow_sI (ow_sI σ 11 2 0) 11 3 (nI l.length)).1 t T := by
      unfold x_text at hT ⊢
      rw [g_k _ _ (show t ≠ 11 by omega), g_k _ _ (show t ≠ 11 by omega), g_k _ _ (show t + 1 ≠ 11 by omega), g_k _ _ (show t + 1 ≠ 11 by omega), g_k _ _ (show t + 2 ≠ 11 by omega), g_k _ _ (show t + 2 ≠ 11 by omega)]
      exact hT
    obtain ⟨σ1, a1, b1, e1⟩ := s_X7_tells fu hfu ht (p := 2) (by decide) (σ := ow_sI (ow_sI σ 11 2 0) 11 3 (nI l.length)) hR hT1
    rw [show (2 : Int32) = nI 2 from rfl, a1, e_cl, e_cl, h_bd_x]
    refine ⟨σ1, ?_, fun z h1 h2 => ?_, ?_⟩
    · simp [g_row, upd, h_many, h5]
    · rw [b1 z h2, g_k _ _ h1, g_k _ _ h1]
    · rw [e1, g_2, g_2]
  | succ q ih =>
    intro g fn σ hR hT hH h5 hl hg hf
    obtain ⟨fn, rfl⟩ : ∃ z, fn = z + 1 := ⟨fn - 1, by omega⟩
    have ht7 : h_times k mo < 10 := by have := hH.2.2.2.2.2; unfold h_times; split <;> omega
    rw [L_X7_says_11, s_X0_goings fu hH, e_cl, if_neg (by rw [n_le (by omega) (by omega)]; omega), hl.1]
    obtain ⟨σ1, a1, b1, c1, d1, w1⟩ := s_X7_goAlong fu hfu ht hc hr hR hT hH h5 hl (Nat.le_refl _)
    rw [a1, e_cv, e_let, show (1 : Int32) = nI 1 from rfl, n_add]
    obtain ⟨σ2, a2, w2⟩ := ih (g + 1) fn σ1 (by rw [w1.2]; exact hR) (hT.fw w1 ht) (hH.fw w1 hc) (by rw [d1]; exact h5) (hl.fw w1 hr) (by omega) (by omega)
    refine ⟨σ2, ?_, w1.tr w2⟩
    rw [a2, b1, c1, List.take_length]
    rfl
theorem s_X7_setOutAs (fu t c : Nat) (n : Int32) (hc : c ≠ 11) (σ : ow_S) : ∃ σ', f_X7_setOutAs fu c t n σ = some σ' ∧ σ'.1 11 0 = σ.1 c 3 &&& h_mask (σ.1 c 2) ∧ σ'.1 11 1 = σ.1 c 4 &&& h_mask (σ.1 c 2) ∧ σ'.1 11 4 = n ∧ σ'.1 11 5 = σ.1 c 1 ∧ (∀ q, q ≠ 11 → σ'.1 q = σ.1 q) ∧ σ'.2.2 10 2 = some t := by
  simp only [f_X7_setOutAs, f_X7_setOut, f_X7_keepBoth, e_let, e_cv, s_X0_lowest, e_cl]
  refine ⟨_, rfl, ?_, ?_, ?_, ?_, ?_, ?_⟩
  · simp [g_if, gR_1, hc]
  · simp [g_if, gR_1, hc]
  · simp [g_if, gR_1]
  · simp [g_if, gR_1]
  · intro q hq; simp [g_k _ _ hq, gR_1]
  · simp [g_2, gR_s]
/-- unchanged but for the walk -/
def x_fs (σ σ' : ow_S) : Prop := ∀ k, k ≠ 11 → k ≠ 12 → σ'.1 k = σ.1 k
theorem s_X7_says (fu : Nat) (hfu : 1000 ≤ fu) {t c k mo r : Nat} {b f s : Int32} {T : Nat → List Nat} (ht : 12 < t) (hc : 12 < c ∨ c = 6) (hr : 12 < r ∨ r < 10) {l : List Int32} {σ : ow_S} (hT : x_text σ.1 t T) (hH : x_head σ.1 c k mo b f s) (hl : x_row σ.1 r l) (n : Int32) :
    ∃ σ', f_X7_says fu c r t n σ = some (h_say T n k mo b f s l, σ') ∧ x_fs σ σ' := by
  obtain ⟨σ1, a1, p0, p1, p4, p5, w1, hR⟩ := s_X7_setOutAs fu t c n (by omega) σ
  have hH' := hH
  obtain ⟨hk, hm, hb, hf, hs, k6, m10⟩ := hH
  rw [hf, hb] at p0
  rw [hs, hb] at p1
  rw [hm] at p5
  have hT1 : x_text σ1.1 t T := by
    unfold x_text at hT ⊢
    rw [w1 t (by omega), w1 (t + 1) (by omega), w1 (t + 2) (by omega)]
    exact hT
  have hH1 : x_head σ1.1 c k mo b f s := by
    unfold x_head at hH' ⊢
    rw [w1 c (by omega)]
    exact hH'
  have hl1 : x_row σ1.1 r l := by
    unfold x_row at hl ⊢
    rw [w1 r (by omega), w1 (r + 1) (by omega)]
    exact hl
  have ht7 : h_times k mo < 10 := by unfold h_times; split <;> omega
  obtain ⟨σ2, a2, w2⟩ := s_X7_says_loop fu hfu ht hc hr (h_times k mo) 0 fu σ1 hR hT1 hH1 p5 hl1 (Nat.zero_add _) (by omega)
  refine ⟨σ2, ?_, fun q h1 h2 => by rw [w2.1 q h1 h2, w1 q h1]⟩
  simp only [f_X7_says, a1, e_cv]
  rw [show (0 : Int32) = nI 0 from rfl, a2, p0, p1, p4, h_say]
