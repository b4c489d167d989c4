/-! the class's sign after sign -/
theorem g_7s (σ : ow_S) (j b : Nat) (v : Int32) : (ow_sI σ 7 j v).1 7 b = if b = j then v else σ.1 7 b := by rw [g_if, if_pos rfl]
theorem s_X3_wordToken (fu : Nat) (hfu : 1000 ≤ fu) {B : Nat → Nat} {n : Nat} {σ : ow_S} (h : x_by σ B n) {p e : Nat} (h2 : σ.1 7 2 = nI p) (hp : p ≤ e) (he : e ≤ n) : f_X3_wordToken fu (nI (e - p)) σ = some (nI (lx_w (lx_W B p e)), ow_sI σ 7 2 (nI e)) := by
  have w := x_rfr.w σ (j := 2) (Or.inl rfl) (nI e)
  have k := fun i (hi : i < 12) => s_X3_isWord fu hfu (h.fr w) (i := i) (p := p) (e := e) hi hp he
  rw [f_X3_wordToken, h2, e_let, n_add, show p + (e - p) = e by omega, e_let]
  simp only [k 0 (by decide), k 1 (by decide), k 2 (by decide), k 3 (by decide), k 4 (by decide), k 5 (by decide), k 6 (by decide), k 7 (by decide), k 8 (by decide), k 9 (by decide), k 10 (by decide), k 11 (by decide), e_cl, lx_w]
  by_cases c0 : lx_W B p e = wd.getD 0 []
  · simp only [if_pos c0]; rfl
  by_cases c1 : lx_W B p e = wd.getD 1 []
  · simp only [if_neg c0, if_pos c1]; rfl
  by_cases c2 : lx_W B p e = wd.getD 2 []
  · simp only [if_neg c0, if_neg c1, if_pos c2]; rfl
  by_cases c3 : lx_W B p e = wd.getD 3 []
  · simp only [if_neg c0, if_neg c1, if_neg c2, if_pos c3]; rfl
  by_cases c4 : lx_W B p e = wd.getD 4 []
  · simp only [if_neg c0, if_neg c1, if_neg c2, if_neg c3, if_pos c4]; rfl
  by_cases c5 : lx_W B p e = wd.getD 5 []
  · simp only [if_neg c0, if_neg c1, if_neg c2, if_neg c3, if_neg c4, if_pos c5]; rfl
  by_cases c6 : lx_W B p e = wd.getD 6 []
  · simp only [if_neg c0, if_neg c1, if_neg c2, if_neg c3, if_neg c4, if_neg c5, if_pos c6]; rfl
  by_cases c7 : lx_W B p e = wd.getD 7 []
  · simp only [if_neg c0, if_neg c1, if_neg c2, if_neg c3, if_neg c4, if_neg c5, if_neg c6, if_pos c7]; rfl
  by_cases c8 : lx_W B p e = wd.getD 8 []
  · simp only [if_neg c0, if_neg c1, if_neg c2, if_neg c3, if_neg c4, if_neg c5, if_neg c6, if_neg c7, if_pos c8]; rfl
  by_cases c9 : lx_W B p e = wd.getD 9 []
  · simp only [if_neg c0, if_neg c1, if_neg c2, if_neg c3, if_neg c4, if_neg c5, if_neg c6, if_neg c7, if_neg c8, if_pos c9]; rfl
  by_cases c10 : lx_W B p e = wd.getD 10 []
  · simp only [if_neg c0, if_neg c1, if_neg c2, if_neg c3, if_neg c4, if_neg c5, if_neg c6, if_neg c7, if_neg c8, if_neg c9, if_pos c10]; rfl
  by_cases c11 : lx_W B p e = wd.getD 11 []
  · simp only [if_neg c0, if_neg c1, if_neg c2, if_neg c3, if_neg c4, if_neg c5, if_neg c6, if_neg c7, if_neg c8, if_neg c9, if_neg c10, if_pos c11]; rfl
  simp only [if_neg c0, if_neg c1, if_neg c2, if_neg c3, if_neg c4, if_neg c5, if_neg c6, if_neg c7, if_neg c8, if_neg c9, if_neg c10, if_neg c11]; rfl
theorem s_num_loop (fu : Nat) {B : Nat → Nat} {n : Nat} : ∀ (q p c v fn : Nat) (σ : ow_S), x_by σ B n → σ.1 7 2 = nI p → p + q = n → q < fn → c ≤ p → lx_nv c v → ∃ σ', L_X3_numberToken_9 fu fn (nI c) (nI v) (nI p) σ = some (nI (if 4 < (lx_n B q p c v).2.1 then 22 else 100 + (lx_n B q p c v).2.2), σ') ∧ σ'.1 7 2 = nI (lx_n B q p c v).1 ∧ (∀ k z, (k ≠ 7 ∨ z ≠ 2) → σ'.1 k z = σ.1 k z) ∧ σ'.2 = σ.2 := by
  intro q
  have fin : ∀ (p c v : Nat) (σ : ow_S), c ≤ 1000 → σ.1 7 2 = nI p → ∃ σ', L_X3_numberToken_65 fu (nI c) (nI v) σ = some (nI (if 4 < c then 22 else 100 + v), σ') ∧ σ'.1 7 2 = nI p ∧ (∀ k z, (k ≠ 7 ∨ z ≠ 2) → σ'.1 k z = σ.1 k z) ∧ σ'.2 = σ.2 := by
    intro p c v σ hc h2
    refine ⟨σ, ?_, h2, fun _ _ _ => rfl, rfl⟩
    rw [L_X3_numberToken_65]
    have e : (4 : Int32) < nI c ↔ 4 < c := n_lt (a := 4) (by decide) (by omega)
    simp only [e]
    by_cases h : 4 < c
    · rw [if_pos h, if_pos h]; rfl
    · rw [if_neg h, if_neg h, show (100 : Int32) = nI 100 from rfl, n_add]
  induction q with
  | zero =>
    intro p c v fn σ h h2 hp hf hc hv
    obtain ⟨fn, rfl⟩ : ∃ q, fn = q + 1 := ⟨fn - 1, by omega⟩
    have hn := h.2.1
    rw [L_X3_numberToken_9, h.1, if_pos (by rw [n_le (by omega) (by omega)]; omega), lx_n]
    exact fin p c v σ (by omega) h2
  | succ q ih =>
    intro p c v fn σ h h2 hp hf hc hv
    obtain ⟨fn, rfl⟩ : ∃ q, fn = q + 1 := ⟨fn - 1, by omega⟩
    have hn := h.2.1
    have hB := h.2.2.2 p
    rw [L_X3_numberToken_9, h.1, if_neg (by rw [n_le (by omega) (by omega)]; omega), e_ckn _ (by omega) (by omega)]
    simp only [n_cl (a := p) (by omega)]
    rw [h.2.2.1 p (by omega), s_X3_isDigit fu _ hB, e_cl, lx_n]
    by_cases hb : 48 ≤ B p ∧ B p ≤ 57
    · have w := x_rfr.w σ (j := 2) (Or.inl rfl) (nI (p + 1))
      have fr : ∀ σ2 : ow_S, ((∀ k z, (k ≠ 7 ∨ z ≠ 2) → σ2.1 k z = (ow_sI σ 7 2 (nI (p + 1))).1 k z) ∧ σ2.2 = (ow_sI σ 7 2 (nI (p + 1))).2) → (∀ k z, (k ≠ 7 ∨ z ≠ 2) → σ2.1 k z = σ.1 k z) ∧ σ2.2 = σ.2 := by
        intro σ2 hh
        refine ⟨fun k z hk => ?_, hh.2⟩
        rw [hh.1 k z hk, g_if]
        by_cases e : k = 7
        · rw [if_pos e, if_neg (by omega), e]
        · rw [if_neg e]
      rw [if_pos hb, if_pos hb, if_neg (by decide), show (1 : Int32) = nI 1 from rfl, n_add, e_let, n_add, e_let]
      have e4 : (4 : Int32) < nI (c + 1) ↔ 4 < c + 1 := n_lt (a := 4) (by decide) (by omega)
      simp only [e4, L_X3_numberToken_59]
      by_cases h4 : 4 < c + 1
      · rw [if_pos h4, e_let, if_neg (show ¬c < 4 by omega), show (1 : Int32) = nI 1 from rfl, n_add]
        obtain ⟨σ2, a2, b2, w2⟩ := ih (p + 1) (c + 1) v fn _ (h.fr w) (g_same _ _ _ _) (by omega) (by omega) (by omega) (by unfold lx_nv at hv ⊢; omega)
        exact ⟨σ2, a2, b2, fr _ w2⟩
      · rw [if_neg h4, e_ckn _ (by omega) (by omega), (h.fr w).2.2.1 p (by omega), show (10 : Int32) = nI 10 from rfl, n_mul, n_add, show (48 : Int32) = nI 48 from rfl, n_sub (by omega), e_let, e_let, if_pos (show c < 4 by omega), show (1 : Int32) = nI 1 from rfl, n_add, show v * 10 + B p - 48 = 10 * v + (B p - 48) by omega]
        obtain ⟨σ2, a2, b2, w2⟩ := ih (p + 1) (c + 1) (10 * v + (B p - 48)) fn _ (h.fr w) (g_same _ _ _ _) (by omega) (by omega) (by omega) (by unfold lx_nv at hv ⊢; omega)
        exact ⟨σ2, a2, b2, fr _ w2⟩
    · rw [if_neg hb, if_neg hb, if_pos rfl]
      exact fin p c v σ (by omega) h2
theorem s_adv_end (fu : Nat) (hfu : 1000 ≤ fu) {B : Nat → Nat} {n p : Nat} {σ : ow_S} (h : x_by σ B n) (hp : p ≤ n) (h2 : σ.1 7 2 = nI p) : ∃ σ', L_X3_advance_38 fu σ = some σ' ∧ σ'.1 7 2 = nI (lx_at B n p).2 ∧ σ'.1 7 3 = nI (lx_at B n p).1 ∧ σ'.1 7 4 = nI p ∧ x_rfr σ σ' := by
  have hn := h.2.1
  have w := x_rfr.w σ (j := 4) (Or.inr (Or.inr rfl)) (nI p)
  have hA := h.fr w
  have hA2 : (ow_sI σ 7 4 (nI p)).1 7 2 = nI p := by rw [g_7s, if_neg (by decide), h2]
  have hA4 : (ow_sI σ 7 4 (nI p)).1 7 4 = nI p := by rw [g_7s, if_pos rfl]
  rw [L_X3_advance_38, h2, e_let]
  revert hA hA2 hA4
  generalize ow_sI σ 7 4 (nI p) = τ at w ⊢
  intro hA hA2 hA4
  have e1 : nI p < nI n ↔ p < n := n_lt (by omega) (by omega)
  rw [hA2, hA.1, lx_at]
  simp only [e1]
  by_cases c : p < n
  · have hB := h.2.2.2 p
    rw [if_pos c, if_neg (by omega), e_ckn _ (by omega) (by omega), n_cl (by omega), hA.2.2.1 p c, s_X3_isLetter fu _ hB, e_cl]
    by_cases cl : 97 ≤ B p ∧ B p ≤ 122
    · rw [if_pos cl, if_pos cl, if_neg (by decide), f_X3_endOfLetters, hA2, e_let, e_let, s_end_loop fu hA (n - p) p fu (by omega) (by omega), e_cl, hA2, n_sub (lx_l_le B _ _).1]
      have := lx_l_le B (n - p) p
      rw [s_X3_wordToken fu hfu hA hA2 (lx_l_le B _ _).1 (by omega), e_cl, e_let]
      refine ⟨_, rfl, ?_, ?_, ?_, w.tr ((x_rfr.w _ (Or.inl rfl) _).tr (x_rfr.w _ (Or.inr (Or.inl rfl)) _))⟩
      · rw [g_7s, if_neg (by decide), g_7s, if_pos rfl]
      · rw [g_7s, if_pos rfl]
      · rw [g_7s, if_neg (by decide), g_7s, if_neg (by decide), hA4]
    · rw [if_neg cl, if_neg cl, if_pos rfl, hA2, e_ckn _ (by omega) (by omega), n_cl (by omega), hA.2.2.1 p c, s_X3_isDigit fu _ hB, e_cl]
      by_cases cd : 48 ≤ B p ∧ B p ≤ 57
      · rw [if_pos cd, if_pos cd, if_neg (by decide), f_X3_numberToken, hA2, e_let]
        obtain ⟨σ2, a2, b2, w2, w3⟩ := s_num_loop fu (n - p) p 0 0 fu τ hA hA2 (by omega) (by omega) (by omega) (by unfold lx_nv; omega)
        rw [show (0 : Int32) = nI 0 from rfl, a2, e_cl, e_let]
        refine ⟨_, rfl, ?_, ?_, ?_, w.tr (x_rfr.tr ⟨fun k z hk => w2 k z (by omega), w3⟩ (x_rfr.w _ (Or.inr (Or.inl rfl)) _))⟩
        · rw [g_7s, if_neg (by decide), b2]
        · rw [g_7s, if_pos rfl]
        · rw [g_7s, if_neg (by decide), w2 7 4 (by omega), hA4]
      · rw [if_neg cd, if_neg cd, if_pos rfl, hA2, e_ckn _ (by omega) (by omega), n_cl (by omega), hA.2.2.1 p c, s_X3_signToken fu _ hB, e_cl, e_let, g_7s, if_neg (by decide), hA2, show (1 : Int32) = nI 1 from rfl, n_add, e_let]
        refine ⟨_, rfl, ?_, ?_, ?_, w.tr ((x_rfr.w _ (Or.inr (Or.inl rfl)) _).tr (x_rfr.w _ (Or.inl rfl) _))⟩
        · rw [g_7s, if_pos rfl]
        · rw [g_7s, if_neg (by decide), g_7s, if_pos rfl]
        · rw [g_7s, if_neg (by decide), g_7s, if_neg (by decide), hA4]
  · rw [if_neg c, if_pos (by omega), e_let]
    refine ⟨_, rfl, ?_, ?_, ?_, w.tr (x_rfr.w _ (Or.inr (Or.inl rfl)) _)⟩
    · rw [g_7s, if_neg (by decide), hA2]
    · rw [g_7s, if_pos rfl]; rfl
    · rw [g_7s, if_neg (by decide), hA4]
theorem s_adv_loop (fu : Nat) (hfu : 1000 ≤ fu) {B : Nat → Nat} {n : Nat} : ∀ (q p fn : Nat) (σ : ow_S), x_by σ B n → σ.1 7 2 = nI p → p + q = n → q < fn → ∃ σ', L_X3_advance_5 fu fn (nI p) σ = some σ' ∧ σ'.1 7 2 = nI (lx_at B n (lx_b B q p)).2 ∧ σ'.1 7 3 = nI (lx_at B n (lx_b B q p)).1 ∧ σ'.1 7 4 = nI (lx_b B q p) ∧ x_rfr σ σ' := by
  intro q
  induction q with
  | zero =>
    intro p fn σ h h2 hp hf
    obtain ⟨fn, rfl⟩ : ∃ q, fn = q + 1 := ⟨fn - 1, by omega⟩
    have hn := h.2.1
    rw [L_X3_advance_5, h.1, if_pos (by rw [n_le (by omega) (by omega)]; omega), lx_b]
    exact s_adv_end fu hfu h (by omega) h2
  | succ q ih =>
    intro p fn σ h h2 hp hf
    obtain ⟨fn, rfl⟩ : ∃ q, fn = q + 1 := ⟨fn - 1, by omega⟩
    have hn := h.2.1
    rw [L_X3_advance_5, h.1, if_neg (by rw [n_le (by omega) (by omega)]; omega), e_ckn _ (by omega) (by omega), n_cl (by omega), h.2.2.1 p (by omega), s_X3_isBlank fu _ (h.2.2.2 p), e_cl, lx_b]
    by_cases hb : B p = 32 ∨ B p = 10
    · rw [if_pos hb, if_pos hb, if_neg (by decide), show (1 : Int32) = nI 1 from rfl, n_add, e_let, e_let]
      have w := x_rfr.w σ (j := 2) (Or.inl rfl) (nI (p + 1))
      obtain ⟨σ2, a2, b2, b3, b4, w2⟩ := ih (p + 1) fn _ (h.fr w) (g_same _ _ _ _) (by omega) (by omega)
      exact ⟨σ2, a2, b2, b3, b4, w.tr w2⟩
    · rw [if_neg hb, if_neg hb, if_pos rfl]
      exact s_adv_end fu hfu h (by omega) h2
theorem s_X3_advance (fu : Nat) (hfu : 1000 ≤ fu) {B : Nat → Nat} {n p : Nat} {σ : ow_S} (h : x_by σ B n) (hp : p ≤ n) (h2 : σ.1 7 2 = nI p) : ∃ σ', f_X3_advance fu σ = some σ' ∧ σ'.1 7 2 = nI (lx_nx B n p) ∧ σ'.1 7 3 = nI (lx_tk B n p) ∧ σ'.1 7 4 = nI (lx_pl B n p) ∧ x_rfr σ σ' := by
  have hn := h.2.1
  rw [f_X3_advance, h2, e_let]
  exact s_adv_loop fu hfu (n - p) p fu σ h h2 (by omega) (by omega)
