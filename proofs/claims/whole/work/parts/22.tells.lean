/-! what a part of a text tells: the class -/
theorem s_tells_95 (fu : Nat) (k : Int32 → Int32 → Int32 → ow_S → Option (Int32 × ow_S)) {d i : Nat} (hd : d < 160) (x3 v : Int32) (σ : ow_S) : L_X7_tells_95 fu k (nI d) x3 (nI i) (nI d) v σ = k (nI (d + 1)) x3 (nI (i + 1)) (ow_sI σ 12 d v) := by
  simp only [L_X7_tells_95, L_X7_tells_202, e_let]
  rw [e_ckn _ (by omega) hd, n_cl (by omega), show (1 : Int32) = nI 1 from rfl, n_add, n_add]
theorem s_tells_163 (fu : Nat) (k : Int32 → Int32 → Int32 → ow_S → Option (Int32 × ow_S)) {d i : Nat} (hd : d < 160) (x2 x3 v : Int32) (σ : ow_S) : L_X7_tells_163 fu k x2 x3 (nI i) (nI d) v σ = k x2 x3 (nI (i + 1)) (ow_sI σ 12 d v) := by
  simp only [L_X7_tells_163, L_X7_tells_202, e_let]
  rw [e_ckn _ (by omega) hd, n_cl (by omega), show (1 : Int32) = nI 1 from rfl, n_add]
theorem s_tells_loop (fu t : Nat) (ht : t + 1 ≠ 12) : ∀ (cs : List Nat) (st : List Int32) (i fn : Nat) (σ : ow_S), σ.2.2 10 2 = some t → (∀ j, j < cs.length → σ.1 (t + 1) (i + j) = nI (cs.getD j 0)) → i + cs.length ≤ 160 → st.length ≤ i → t_stk (σ.1 12) st → t_dp cs st.length = some 1 → (∀ c ∈ cs, t_ok c) → cs.length < fn →
    ∃ σ', L_X7_tells_30 fu fn (nI st.length) (nI (i + cs.length)) (nI i) σ = some ((t_ev (σ.1 11) cs st).headD 0, σ') ∧ (∀ k, k ≠ 12 → σ'.1 k = σ.1 k) ∧ σ'.2 = σ.2 := by
  intro cs
  induction cs with
  | nil =>
    intro st i fn σ hR hC hi hst hS hD hok hf
    obtain ⟨fn, rfl⟩ : ∃ q, fn = q + 1 := ⟨fn - 1, by simp at hf; omega⟩
    refine ⟨σ, ?_, fun _ _ => rfl, rfl⟩
    rw [L_X7_tells_30, if_pos (by simp)]
    simp only [t_dp, Option.some.injEq] at hD
    match st, hD, hS with
    | [x], _, hS => rw [show (0 : Nat) = ([] : List Int32).length from rfl, hS.1]; rfl
  | cons c cs ih =>
    intro st i fn σ hR hC hi hst hS hD hok hf
    simp only [List.length_cons] at hi hf hC
    obtain ⟨fn, rfl⟩ : ∃ q, fn = q + 1 := ⟨fn - 1, by omega⟩
    have hc0 : σ.1 (t + 1) i = nI c := by have := hC 0 (by omega); simpa using this
    have hok0 : t_ok c := hok c List.mem_cons_self
    have hok1 : ∀ c ∈ cs, t_ok c := fun x hx => hok x (List.mem_cons_of_mem _ hx)
    have hcb : c < 10100 := by rcases hok0 with h | h <;> omega
    have e100 : (100 : Int32) ≤ nI c ↔ 100 ≤ c := n_le (a := 100) (by decide) (by omega)
    have e100' : nI c < (100 : Int32) ↔ c < 100 := n_lt (b := 100) (by omega) (by decide)
    have e6 : (6 : Int32) ≤ nI c ↔ 6 ≤ c := n_le (a := 6) (by decide) (by omega)
    have e8 : nI c = (8 : Int32) ↔ c = 8 := n_eq (b := 8) (by omega) (by decide)
    have e14 : nI c = (14 : Int32) ↔ c = 14 := n_eq (b := 14) (by omega) (by decide)
    have eL : i + (cs.length + 1) = (i + 1) + cs.length := by omega
    simp only [List.length_cons]
    rw [L_X7_tells_30, if_neg (by rw [n_le (by omega) (by omega)]; omega), hR, e_op, e_ckn _ (by omega) (by omega), e_let, n_cl (by omega), hc0]
    -- what goes on behind a step
    have go : ∀ (st' : List Int32) (d : Nat) (v : Int32), st'.length ≤ i + 1 → t_stk (upd (σ.1 12) d v) st' → t_dp cs st'.length = some 1 → ∃ σ', L_X7_tells_30 fu fn (nI st'.length) (nI (i + (cs.length + 1))) (nI (i + 1)) (ow_sI σ 12 d v) = some ((t_ev (σ.1 11) cs st').headD 0, σ') ∧ (∀ k, k ≠ 12 → σ'.1 k = σ.1 k) ∧ σ'.2 = σ.2 := by
      intro st' d v h1 h2 h3
      obtain ⟨σ', a, b, e⟩ := ih st' (i + 1) fn (ow_sI σ 12 d v) hR (fun j hj => by
        rw [g_k _ _ ht]
        have := hC (j + 1) (by omega)
        rw [List.getD_cons_succ] at this
        rw [show i + 1 + j = i + (j + 1) by omega]; exact this) (by omega) h1 (by rw [g_row]; exact h2) h3 hok1 (by omega)
      rw [eL]
      refine ⟨σ', ?_, fun k hk => ?_, e⟩
      · rw [a, g_k _ _ (by decide)]
      · rw [b k hk, g_k _ _ hk]
    by_cases h1 : 100 ≤ c
    · rw [if_pos (e100.mpr h1)]
      simp only [L_X7_tells_62]
      rw [if_neg (by rw [show (160 : Int32) = nI 160 from rfl, n_le (by decide) (by omega)]; omega), if_neg (by rw [e100']; omega), s_tells_95 fu _ (by omega)]
      rw [t_dp, if_pos (Or.inl h1)] at hD
      rw [t_ev_cons, if_pos h1, show (100 : Int32) = nI 100 from rfl, n_sub h1]
      exact go (nI (c - 100) :: st) st.length _ (by simp; omega) (t_stk_push hS) (by simpa using hD)
    · rw [if_neg (by rw [e100]; exact h1)]
      by_cases h2 : c < 6
      · rw [if_neg (by rw [e6]; omega)]
        simp only [L_X7_tells_62]
        rw [if_neg (by rw [show (160 : Int32) = nI 160 from rfl, n_le (by decide) (by omega)]; omega), if_pos (by rw [e100']; omega)]
        have hv : f_X7_valueOf fu (nI c) σ = some (σ.1 11 c, σ) := by
          simp only [f_X7_valueOf]
          rw [if_neg (nI_pos (by omega)), if_neg (by rw [e6]; omega), e_ckn _ (by omega) h2, n_cl (by omega)]
        rw [hv, e_cl, s_tells_95 fu _ (by omega)]
        rw [t_dp, if_pos (Or.inr h2)] at hD
        rw [t_ev_cons, if_neg h1, if_pos h2]
        exact go (σ.1 11 c :: st) st.length _ (by simp; omega) (t_stk_push hS) (by simpa using hD)
      · rw [if_pos (by rw [e6]; omega)]
        rw [t_dp, if_neg (by omega)] at hD
        rw [t_ev_cons, if_neg h1, if_neg h2]
        by_cases h3 : c = 8 ∨ c = 14
        · rw [if_pos h3] at hD
          rw [if_pos h3]
          match st, hD, hS, hst with
          | [], hD, _, _ => simp at hD
          | x :: r, hD, hS, hst =>
            rw [if_neg (by simp)] at hD
            simp only [List.length_cons] at hst
            have hd : r.length < 160 := by omega
            have ex : nI (x :: r).length - (1 : Int32) = nI r.length := by rw [show (1 : Int32) = nI 1 from rfl, n_sub (by simp)]; simp
            have key : L_X7_tells_116 fu (L_X7_tells_30 fu fn) (nI (x :: r).length) (nI (i + (cs.length + 1))) (nI i) (nI c) σ = L_X7_tells_30 fu fn (nI (x :: r).length) (nI (i + (cs.length + 1))) (nI (i + 1)) (ow_sI σ 12 r.length (t_un c x)) := by
              simp only [L_X7_tells_116]
              rw [if_neg (by rw [show (1 : Int32) = nI 1 from rfl, n_lt (by simp; omega) (by decide)]; simp), ex, e_ckn _ (by omega) hd, e_ckn _ (by omega) hd, n_cl (by omega), hS.1]
              by_cases h14 : c = 14
              · rw [if_pos (e14.mpr h14), s_tells_163 fu _ hd, t_un, if_pos h14]
              · rw [if_neg (by rw [e14]; exact h14), t_un, if_neg h14]
                by_cases hx : x = 0
                · rw [if_pos hx, if_pos hx, s_tells_163 fu _ hd]
                · rw [if_neg hx, if_neg hx, s_tells_163 fu _ hd]
            have fin := go (t_un c x :: r) r.length (t_un c x) (by simp; omega) (t_stk_push hS.2) (by simpa using hD)
            by_cases h8 : c = 8
            · rw [if_pos (e8.mpr h8), key]; exact fin
            · rw [if_neg (by rw [e8]; exact h8), if_pos (e14.mpr (by omega)), key]; exact fin
        · rw [if_neg h3] at hD
          rw [if_neg h3, if_neg (by rw [e8]; omega), if_neg (by rw [e14]; omega)]
          match st, hD, hS, hst with
          | [], hD, _, _ => simp at hD
          | [_], hD, _, _ => simp at hD
          | y :: x :: r, hD, hS, hst =>
            rw [if_neg (by simp)] at hD
            simp only [List.length_cons] at hst
            have hd : r.length < 160 := by omega
            rw [if_neg (by rw [show (2 : Int32) = nI 2 from rfl, n_lt (by simp; omega) (by decide)]; simp), e_let]
            have e1 : nI (y :: x :: r).length + (-1 : Int32) = nI (r.length + 1) := by
              show nI (r.length + 1 + 1) + -1 = _
              exact pk_m1 _
            have e2 : nI (r.length + 1) - (1 : Int32) = nI r.length := by rw [show (1 : Int32) = nI 1 from rfl, n_sub (by omega)]; rfl
            have hc15 : c < 15 := by rcases hok0 with h | h <;> omega
            rw [e1, e2, e_ckn _ (by omega) hd, e_ckn _ (by omega) (by omega)]
            simp only [n_cl (a := r.length) (by omega), n_cl (a := r.length + 1) (by omega)]
            rw [hS.2.1, show σ.1 12 (r.length + 1) = y from hS.1, s_X7_joined fu c hc15, e_cl, e_ckn _ (by omega) hd, e_let]
            simp only [L_X7_tells_202, e_let]
            rw [show (1 : Int32) = nI 1 from rfl, n_add]
            exact go (t_bin c x y :: r) r.length (t_bin c x y) (by simp; omega) (t_stk_push hS.2.2) (by simpa using hD)
