/-! cell, taken -/
theorem n_sort {so : Nat} (h : so < 4) : (nI so - 1 = (-1 : Int32) ↔ so = 0) ∧ (nI so - 1 = (0 : Int32) ↔ so = 1) ∧ (nI so - 1 = (1 : Int32) ↔ so = 2) := by
  rcases (show so = 0 ∨ so = 1 ∨ so = 2 ∨ so = 3 by omega) with rfl | rfl | rfl | rfl <;> decide
theorem o_cell (fu : Nat) (a1 a2 a3 : Int32) : sameI (f_X8_cell fu a1 a2 a3) (f_X9_cell fu a1 a2 a3) := by
  intro X M h
  have stop : ∀ v : Int32, ∃ r X' M', some (v, X) = some (r, X') ∧ some (v, M) = some (r, M') ∧ Rl X' M' := fun v => ⟨_, _, _, rfl, rfl, h⟩
  rw [f_X8_cell, f_X9_cell, s_isSheet, s_inb, e_cl, e_cl]
  rcases inb_cases (v := a1) (a := 0) (b := 3) (by decide) (by decide) with i1 | ⟨i1, s, s1, s2, rfl⟩
  · rw [show inb a1 0 3 = 0 from i1, if_pos rfl, if_pos rfl]; exact stop _
  obtain ⟨so, sz, w1, w2, w3, w4, w5, w6, w7⟩ := h.2.2.2.2.2.1 s (by omega)
  obtain ⟨k1, k2, k3⟩ := n_sort w1
  rw [show inb (nI s) 0 3 = 1 from i1, if_neg (show ¬ (1 : Int32) = 0 by decide), if_neg (show ¬ (1 : Int32) = 0 by decide)]
  have cl : (nI s).toNatClampNeg = s := n_cl (by omega)
  have ck : ∀ K : Option (Int32 × ow_S), ow_ck (ow_bd (nI s) 4) K = K := fun K => e_ckn K (by omega) (by omega)
  simp only [cl, ck, e_let, f_X5_isMissing, w3, w4, w6, k1, k2, k3]
  by_cases c0 : so = 0
  · rw [if_pos c0, if_pos c0, e_cl, if_neg (show ¬ (1 : Int32) = 0 by decide)]; exact stop _
  rw [if_neg c0, if_neg c0, e_cl, if_pos rfl, f_X5_has, s_in, e_cl, w5]
  by_cases d0 : a2 < 0
  · rw [if_pos d0, if_pos d0, e_cl, if_pos rfl, if_pos rfl]; exact stop _
  rw [if_neg d0, if_neg d0]
  obtain ⟨j, hj, rfl⟩ := n_of d0
  have e1 : nI sz ≤ nI j ↔ sz ≤ j := n_le (by omega) hj
  simp only [e1, n_last (m := sz) (j := j) (by omega) hj]
  by_cases d1 : sz ≤ j
  · rw [if_pos d1, if_pos d1, e_cl, if_pos rfl, if_pos rfl]; exact stop _
  rw [if_neg d1, if_neg d1, e_cl, if_neg (show ¬ (1 : Int32) = 0 by decide), if_neg (show ¬ (1 : Int32) = 0 by decide)]
  have go : ∀ v : Int32, ∃ r X' M', (ow_cv (L_X5_put_39 fu (48 + 2 * s + 1) (nI j) v X) <| fun σ_49 => some ((1 : Int32), σ_49)) = some (r, X') ∧ L_X9_cell_84 fu (((40 : Int32) * nI s) + nI j) v M = some (r, M') ∧ Rl X' M' := by
    intro v
    refine ⟨1, ow_sI X (48 + 2 * s + 1) j v, ow_sI M 68 (40 * s + j) v, ?_, ?_, h.sheet (fun c hc => g_k _ _ (by omega)) (fun c a b d => g_k _ _ d) (fun t ht => ?_)⟩
    · rw [L_X5_put_39, e_ckn _ (by omega) (by omega), n_cl hj, e_let, e_cv]
    · rw [L_X9_cell_84, show (40 : Int32) * nI s = nI (40 * s) from n_mul 40 s, n_add, e_ckn _ (by omega) (by omega), n_cl (a := 40 * s + j) (by omega), e_let]
    · obtain ⟨so', sz', v1, v2, v3, v4, v5, v6, v7⟩ := h.2.2.2.2.2.1 t ht
      refine ⟨so', sz', v1, v2, ?_, ?_, ?_, ?_, fun z hz => ?_⟩
      · rw [g_k _ _ (show 48 + 2 * t ≠ 48 + 2 * s + 1 by omega)]; exact v3
      · rw [g_k _ _ (show 66 ≠ 68 by decide)]; exact v4
      · rw [g_k _ _ (show 48 + 2 * t ≠ 48 + 2 * s + 1 by omega)]; exact v5
      · rw [g_k _ _ (show 67 ≠ 68 by decide)]; exact v6
      · rw [g_if, g_if]
        by_cases e : t = s
        · subst e
          by_cases e2 : z = j
          · subst e2; rw [if_pos rfl, if_pos rfl, if_pos rfl, if_pos rfl]
          · rw [if_pos rfl, if_neg e2, if_pos rfl, if_neg (by omega)]; exact v7 z hz
        · rw [if_neg (by omega), if_pos rfl, if_neg (by omega)]; exact v7 z hz
  have hhas : f_X5_has fu (48 + 2 * s) (nI j) X = some (1, X) := by
    rw [f_X5_has, if_neg d0, w5]; simp only [e1]; rw [if_neg d1]
  rw [f_X5_put, hhas, e_cl, if_neg (show ¬ (1 : Int32) = 0 by decide), w3, w4]
  simp only [k2, k3]
  by_cases c1 : so = 1
  · simp only [if_pos c1]; exact go _
  · simp only [if_neg c1]
    by_cases c2 : so = 2
    · simp only [if_pos c2]; exact go _
    · simp only [if_neg c2]; exact go _
