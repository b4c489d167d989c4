/-! what a part of a text tells: the reference -/
theorem s_tellsOf_93 (fu : Nat) (k : Int32 → Int32 → Int32 → ow_S → Option (Int32 × ow_S)) {d i : Nat} (hd : d < 200) (x1 v : Int32) (σ : ow_S) : L_X9_tellsOf_93 fu k x1 (nI d) (nI i) (nI d) v σ = k x1 (nI (d + 1)) (nI (i + 1)) (ow_sI σ 72 d v) := by
  simp only [L_X9_tellsOf_93, L_X9_tellsOf_191, e_let]
  rw [e_ckn _ (by omega) hd, n_cl (by omega), show (1 : Int32) = nI 1 from rfl, n_add, n_add]
theorem s_tellsOf_130 (fu : Nat) (k : Int32 → Int32 → Int32 → ow_S → Option (Int32 × ow_S)) {d i : Nat} (hd : d < 200) (x1 x2 v : Int32) (σ : ow_S) : L_X9_tellsOf_130 fu k x1 x2 (nI i) (nI d) v σ = k x1 x2 (nI (i + 1)) (ow_sI σ 72 d v) := by
  simp only [L_X9_tellsOf_130, L_X9_tellsOf_191, e_let]
  rw [e_ckn _ (by omega) hd, n_cl (by omega), show (1 : Int32) = nI 1 from rfl, n_add]
theorem s_tellsOf_loop (fu ru p : Nat) (hru : ru < 6) (hp : p < 3) : ∀ (cs : List Nat) (st : List Int32) (i fn : Nat) (σ : ow_S), σ.1 56 12 = nI ru → σ.1 63 (4 * ru + p + 1) = nI (i + cs.length) → (∀ j, j < cs.length → σ.1 62 (200 * ru + (i + j)) = nI (t_cm (cs.getD j 0))) → i + cs.length ≤ 160 → st.length ≤ i → t_stk (σ.1 72) st → t_dp cs st.length = some 1 → (∀ c ∈ cs, t_ok c) → cs.length < fn →
    ∃ σ', L_X9_tellsOf_16 fu fn (nI p) (nI st.length) (nI i) σ = some ((t_ev (σ.1 73) cs st).headD 0, σ') ∧ (∀ k, k ≠ 72 → σ'.1 k = σ.1 k) ∧ σ'.2 = σ.2 := by
  intro cs
  induction cs with
  | nil =>
    intro st i fn σ hR hE hC hi hst hS hD hok hf
    obtain ⟨fn, rfl⟩ : ∃ q, fn = q + 1 := ⟨fn - 1, by simp at hf; omega⟩
    refine ⟨σ, ?_, fun _ _ => rfl, rfl⟩
    rw [L_X9_tellsOf_16, hR, show (4 : Int32) = nI 4 from rfl, show (1 : Int32) = nI 1 from rfl, n_mul, n_add, n_add, e_ckn _ (by omega) (by omega), n_cl (by omega), hE, if_pos (by rw [n_le (by simp; omega) (by simp at hi; omega)]; simp)]
    simp only [t_dp, Option.some.injEq] at hD
    match st, hD, hS with
    | [x], _, hS => rw [show (0 : Nat) = ([] : List Int32).length from rfl, hS.1]; rfl
  | cons c cs ih =>
    intro st i fn σ hR hE hC hi hst hS hD hok hf
    simp only [List.length_cons] at hi hf hC hE
    obtain ⟨fn, rfl⟩ : ∃ q, fn = q + 1 := ⟨fn - 1, by omega⟩
    have hc0 : σ.1 62 (200 * ru + i) = nI (t_cm c) := by have := hC 0 (by omega); simpa using this
    have hok0 : t_ok c := hok c List.mem_cons_self
    have hok1 : ∀ c ∈ cs, t_ok c := fun x hx => hok x (List.mem_cons_of_mem _ hx)
    have hcb : c < 10100 := by rcases hok0 with h | h <;> omega
    have hm : t_cm c < 2 ^ 31 := by unfold t_cm; split; omega; split <;> omega
    have e100 : (100000 : Int32) ≤ nI (t_cm c) ↔ 100 ≤ c := (n_le (a := 100000) (by decide) hm).trans (by unfold t_cm; split; omega; split <;> omega)
    have e11 : (11 : Int32) ≤ nI (t_cm c) ↔ 6 ≤ c := (n_le (a := 11) (by decide) hm).trans (by unfold t_cm; split; omega; split <;> omega)
    have e13 : nI (t_cm c) = (13 : Int32) ↔ c = 8 := (n_eq (b := 13) hm (by decide)).trans (by unfold t_cm; split; omega; split <;> omega)
    have e19 : nI (t_cm c) = (19 : Int32) ↔ c = 14 := (n_eq (b := 19) hm (by decide)).trans (by unfold t_cm; split; omega; split <;> omega)
    have eL : i + (cs.length + 1) = (i + 1) + cs.length := by omega
    rw [L_X9_tellsOf_16, hR, show (4 : Int32) = nI 4 from rfl, show (200 : Int32) = nI 200 from rfl, n_mul, n_mul, n_add, n_add, show nI (4 * ru + p) + (1 : Int32) = nI (4 * ru + p + 1) from n_add _ _, e_ckn _ (by omega) (by omega), n_cl (by omega), hE, if_neg (by rw [n_le (by omega) (by omega)]; omega), e_ckn _ (by omega) (by omega), e_let, n_cl (by omega), hc0]
    -- what goes on behind a step
    have go : ∀ (st' : List Int32) (d : Nat) (v : Int32), st'.length ≤ i + 1 → t_stk (upd (σ.1 72) d v) st' → t_dp cs st'.length = some 1 → ∃ σ', L_X9_tellsOf_16 fu fn (nI p) (nI st'.length) (nI (i + 1)) (ow_sI σ 72 d v) = some ((t_ev (σ.1 73) cs st').headD 0, σ') ∧ (∀ k, k ≠ 72 → σ'.1 k = σ.1 k) ∧ σ'.2 = σ.2 := by
      intro st' d v h1 h2 h3
      obtain ⟨σ', a, b, e⟩ := ih st' (i + 1) fn (ow_sI σ 72 d v) (by rw [g_k _ _ (by decide)]; exact hR) (by rw [g_k _ _ (by decide), hE, eL]) (fun j hj => by
        rw [g_k _ _ (by decide)]
        have := hC (j + 1) (by omega)
        rw [List.getD_cons_succ] at this
        rw [show i + 1 + j = i + (j + 1) by omega]; exact this) (by omega) h1 (by rw [g_row]; exact h2) h3 hok1 (by omega)
      refine ⟨σ', ?_, fun k hk => ?_, e⟩
      · rw [a, g_k _ _ (by decide)]
      · rw [b k hk, g_k _ _ hk]
    by_cases h1 : 100 ≤ c
    · rw [if_pos (e100.mpr h1)]
      simp only [L_X9_tellsOf_66]
      rw [if_pos (by rw [e11]; omega), s_tellsOf_93 fu _ (by omega)]
      rw [t_dp, if_pos (Or.inl h1)] at hD
      rw [t_ev_cons, if_pos h1, show (100000 : Int32) = nI 100000 from rfl, n_sub (by unfold t_cm; rw [if_pos h1]; omega), show t_cm c - 100000 = c - 100 by unfold t_cm; rw [if_pos h1]; omega]
      exact go (nI (c - 100) :: st) st.length _ (by simp; omega) (t_stk_push hS) (by simpa using hD)
    · rw [if_neg (by rw [e100]; exact h1)]
      by_cases h2 : c < 6
      · rw [if_neg (by rw [e11]; omega)]
        simp only [L_X9_tellsOf_66]
        have ec : t_cm c = c := by unfold t_cm; rw [if_neg h1, if_pos h2]
        rw [if_neg (by rw [e11]; omega), ec, e_ckn _ (by omega) h2, n_cl (by omega), s_tellsOf_93 fu _ (by omega)]
        rw [t_dp, if_pos (Or.inr h2)] at hD
        rw [t_ev_cons, if_neg h1, if_pos h2]
        exact go (σ.1 73 c :: st) st.length _ (by simp; omega) (t_stk_push hS) (by simpa using hD)
      · rw [if_pos (by rw [e11]; omega)]
        rw [t_dp, if_neg (by omega)] at hD
        rw [t_ev_cons, if_neg h1, if_neg h2]
        by_cases h3 : c = 8 ∨ c = 14
        · rw [if_pos h3] at hD
          rw [if_pos h3]
          match st, hD, hS, hst with
          | [], hD, _, _ => simp at hD
          | x :: r, hD, hS, hst =>
            rw [if_neg (by simp)] at hD
            simp only [List.length_cons] at hst
            have hd : r.length < 200 := by omega
            have ex : nI (x :: r).length - (1 : Int32) = nI r.length := by rw [show (1 : Int32) = nI 1 from rfl, n_sub (by simp)]; simp
            have fin := go (t_un c x :: r) r.length (t_un c x) (by simp; omega) (t_stk_push hS.2) (by simpa using hD)
            by_cases h8 : c = 8
            · rw [if_pos (e13.mpr h8), ex, e_ckn _ (by omega) hd, n_cl (by omega), hS.1]
              by_cases hx : x = 0
              · have ht : t_un c x = 1 := by unfold t_un; rw [if_neg (by omega), if_pos hx]
                rw [if_pos hx, s_tellsOf_130 fu _ hd]
                rw [ht] at fin
                show ∃ σ', _ = some ((t_ev (σ.1 73) cs (t_un c x :: r)).headD 0, σ') ∧ _
                rw [ht]; exact fin
              · have ht : t_un c x = 0 := by unfold t_un; rw [if_neg (by omega), if_neg hx]
                rw [if_neg hx, s_tellsOf_130 fu _ hd]
                rw [ht] at fin
                show ∃ σ', _ = some ((t_ev (σ.1 73) cs (t_un c x :: r)).headD 0, σ') ∧ _
                rw [ht]; exact fin
            · have h14 : c = 14 := by omega
              rw [if_neg (by rw [e13]; exact h8), if_pos (e19.mpr h14), ex, e_ckn _ (by omega) hd, e_ckn _ (by omega) hd, e_let, n_cl (by omega), hS.1]
              simp only [L_X9_tellsOf_191, e_let]
              rw [show (1 : Int32) = nI 1 from rfl, n_add, show -x = t_un c x by unfold t_un; rw [if_pos h14]]
              exact fin
        · rw [if_neg h3] at hD
          rw [if_neg h3, if_neg (by rw [e13]; omega), if_neg (by rw [e19]; omega), e_let]
          match st, hD, hS, hst with
          | [], hD, _, _ => simp at hD
          | [_], hD, _, _ => simp at hD
          | y :: x :: r, hD, hS, hst =>
            rw [if_neg (by simp)] at hD
            simp only [List.length_cons] at hst
            have hd : r.length < 200 := by omega
            have e1 : nI (y :: x :: r).length + (-1 : Int32) = nI (r.length + 1) := by
              show nI (r.length + 1 + 1) + -1 = _
              exact pk_m1 _
            have e2 : nI (r.length + 1) - (1 : Int32) = nI r.length := by rw [show (1 : Int32) = nI 1 from rfl, n_sub (by omega)]; rfl
            have hc15 : c < 15 := by rcases hok0 with h | h <;> omega
            have ec : t_cm c = c + 5 := by unfold t_cm; rw [if_neg h1, if_neg h2]
            rw [e1, e2, e_ckn _ (by omega) hd, e_ckn _ (by omega) (by omega)]
            simp only [n_cl (a := r.length) (by omega), n_cl (a := r.length + 1) (by omega)]
            rw [hS.2.1, show σ.1 72 (r.length + 1) = y from hS.1, ec, s_X9_two_ fu c hc15 x y (by omega), e_cl, e_ckn _ (by omega) hd, e_let]
            simp only [L_X9_tellsOf_191, e_let]
            rw [show (1 : Int32) = nI 1 from rfl, n_add]
            exact go (t_bin c x y :: r) r.length (t_bin c x y) (by simp; omega) (t_stk_push hS.2.2) (by simpa using hD)
