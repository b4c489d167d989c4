/-! cardsBy -/
theorem s_card_n0 (fu : Nat) (a : Int32) {X M : ow_S} (h : Rl X M) : ∃ r X' M', f_X8_card fu a X = some (r, X') ∧ f_X9_card fu a M = some (r, M') ∧ Rl X' M' ∧ (r ≤ 0 ↔ r < 0) := by
  obtain ⟨r, X', M', e1, e2, e3⟩ := o_card fu a X M h
  refine ⟨r, X', M', e1, e2, e3, ?_⟩
  obtain ⟨P', hP', hP1, b, c1, c2, hb⟩ := s_isCard fu h.1 a
  obtain ⟨P, l, p1, p2, p3, p4, p5, p6, p7, p8⟩ := h.1
  have h60 := p5.2.1
  rw [f_X8_card, c1, e_cl] at e1
  cases b with
  | false =>
    rw [if_neg (show ¬ false = true by decide), if_pos rfl] at e1
    simp only [Option.some.injEq, Prod.mk.injEq] at e1
    rw [← e1.1]; decide
  | true =>
    rw [if_pos rfl, if_neg (show ¬ (1 : Int32) = 0 by decide)] at e1
    by_cases c : l.length < 60
    · obtain ⟨X1, a1, a2, a3⟩ := s_X4_add fu (r := 1) p5 c a
      rw [a1, e_cl, if_neg (show ¬ (1 : Int32) = 0 by decide)] at e1
      simp only [Option.some.injEq, Prod.mk.injEq] at e1
      rw [← e1.1, a2.1]
      have hlen : (l ++ [a]).length = l.length + 1 := by simp
      rw [hlen]
      exact ⟨fun hh => absurd hh (nI_nle (by omega) (by omega)), fun hh => absurd hh (nI_pos (by omega))⟩
    · rw [s_X4_addF fu p5 c, e_cl, if_pos rfl] at e1
      simp only [Option.some.injEq, Prod.mk.injEq] at e1
      rw [← e1.1]; decide
theorem s_cardsBy_loop (fu : Nat) (hfu : 1000 ≤ fu) {s n : Nat} (hs : s < 4) (hn : n ≤ 40) (x3 : Int32) : ∀ (q i fn : Nat) (x5 : Int32) (X M : ow_S), Rl X M → (i = 0 ∨ ∃ p : Nat, p < 40 ∧ x3 = nI p) → i + q = n → q < fn → ∃ r X' M', L_X8_cardsBy_68 fu fn (nI s) x3 (nI n) x5 (nI i) X = some (r, X') ∧ L_X9_cardsBy_64 fu fn (nI s) x3 (nI n) x5 (nI i) M = some (r, M') ∧ Rl X' M' := by
  intro q
  induction q with
  | zero =>
    intro i fn x5 X M h hv hi hf
    obtain ⟨fn, rfl⟩ : ∃ q, fn = q + 1 := ⟨fn - 1, by omega⟩
    have hle : nI n ≤ nI i := by rw [n_le (by omega) (by omega)]; omega
    rw [L_X8_cardsBy_68, L_X9_cardsBy_64, if_pos hle, if_pos hle]
    exact ⟨_, _, _, rfl, rfl, h⟩
  | succ q ih =>
    intro i fn x5 X M h hv hi hf
    obtain ⟨fn, rfl⟩ : ∃ q, fn = q + 1 := ⟨fn - 1, by omega⟩
    have hle : ¬ nI n ≤ nI i := by rw [n_le (by omega) (by omega)]; omega
    obtain ⟨so, sz, w1, w2, w3, w4, w5, w6, w7⟩ := h.2.2.2.2.2.1 s hs
    have cl : (nI s).toNatClampNeg = s := n_cl (by omega)
    have ck : ∀ K : Option (Int32 × ow_S), ow_ck (ow_bd (nI s) 4) K = K := fun K => e_ckn K (by omega) (by omega)
    have stop : ∃ r X' M', some ((-12 : Int32), X) = some (r, X') ∧ some ((-12 : Int32), M) = some (r, M') ∧ Rl X' M' := ⟨_, _, _, rfl, rfl, h⟩
    rw [L_X8_cardsBy_68, L_X9_cardsBy_64, if_neg hle, if_neg hle]
    simp only [cl, ck, e_let, show (1 : Int32) * nI i = nI i from Int32.one_mul (nI i), w6, L_X8_cardsBy_118, L_X9_cardsBy_135, show nI i + (1 : Int32) = nI (i + 1) from n_add i 1]
    rw [f_X5_has, w5]
    by_cases c0 : x3 < 0
    · have hi0 : i = 0 := by
        rcases hv with hv | ⟨p, hp, rfl⟩
        · exact hv
        · exact absurd c0 (nI_pos (by omega))
      subst hi0
      rw [if_pos c0, show x3 + nI 0 = x3 from Int32.add_zero x3, if_pos c0, e_cl, if_pos rfl]; exact stop
    · rw [if_neg c0]
      obtain ⟨p, hp, rfl⟩ := n_of c0
      have hpi : p + i < 2 ^ 31 := by
        rcases hv with hv | ⟨p', hp', hh⟩
        · omega
        · have : p = p' := (n_eq hp (by omega)).mp hh
          omega
      have e1 : nI sz ≤ nI (p + i) ↔ sz ≤ p + i := n_le (by omega) hpi
      have e2 : nI (p + i) ≤ nI sz - (1 : Int32) ↔ ¬ sz ≤ p + i := by
        rw [← n_last (m := sz) (j := p + i) (by omega) hpi, Int32.not_lt]
      rw [n_add, if_neg (nI_pos hpi), if_neg (show ¬ nI (p + i) < nI p by rw [n_lt hpi hp]; omega)]
      simp only [e1, e2]
      by_cases c : sz ≤ p + i
      · rw [if_pos c, e_cl, if_pos rfl, if_neg (fun hh => hh c)]; exact stop
      · rw [if_neg c, e_cl, if_neg (show ¬ (1 : Int32) = 0 by decide), if_pos c, e_ckn _ hpi (by omega), n_cl hpi, show (40 : Int32) * nI s = nI (40 * s) from n_mul 40 s, n_add, e_ckn _ (by omega) (by omega), n_cl (a := 40 * s + (p + i)) (by omega)]
        obtain ⟨r, X1, M1, r1, r2, r3, r4⟩ := s_card_n0 fu (X.1 (48 + 2 * s + 1) (p + i)) h
        rw [← w7 (p + i) (by omega), r1, r2, e_cl, e_cl]
        simp only [r4, show x5 + (0 : Int32) = x5 from Int32.add_zero x5]
        have inv : i + 1 = 0 ∨ ∃ p' : Nat, p' < 40 ∧ nI p = nI p' := Or.inr ⟨p, by omega, rfl⟩
        by_cases cr : r < 0
        · rw [if_pos cr, if_pos cr]; exact ih (i + 1) fn x5 X1 M1 r3 inv (by omega) (by omega)
        · rw [if_neg cr, if_neg cr]; exact ih (i + 1) fn _ X1 M1 r3 inv (by omega) (by omega)
