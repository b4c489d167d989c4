/-! the class's reader: one, not, the group, a part, a text -/
section
variable {B : Nat → Nat} {n h : Nat}
theorem s_puta (fu : Nat) (hfu : 1000 ≤ fu) (hh : 30 ≤ h) {σ : ow_S} {k : Nat} {L : List Nat} (q : xq B n h σ k L) (h21 : Tk B n k ≠ 21) (c : Nat) : ∃ σ1 σ2, f_X3_put fu (nI c) σ = some σ1 ∧ f_X3_advance fu σ1 = some σ2 ∧ xq B n h σ2 (k + 1) (L ++ [c]) ∧ xw h σ σ2 := by
  obtain ⟨a1, a2, a3, a4, a5, a6, a7, a8, a9, a10⟩ := q
  have hps := ps_le B n k
  have hlt := ps_lt B n k h21
  have hps1 := ps_le B n (k + 1)
  have hn := a1.2.1
  have w := xw.a hh σ L.length (nI c) (nI (L.length + 1))
  have b1 : x_by (ow_sI (ow_sI σ (h + 1) L.length (nI c)) h 2 (nI (L.length + 1))) B n := ⟨(w.1 7 1 (by omega) (by omega) (by omega)).trans a1.1, a1.2.1, fun i hi => (w.1 8 i (by omega) (by omega) (by omega)).trans (a1.2.2.1 i hi), a1.2.2.2⟩
  have c7 : (ow_sI (ow_sI σ (h + 1) L.length (nI c)) h 2 (nI (L.length + 1))).1 7 = σ.1 7 := by
    rw [g_k _ _ (show 7 ≠ h by omega), g_k _ _ (show 7 ≠ h + 1 by omega)]
  obtain ⟨σ', e, e2, e3, e4, w'⟩ := s_X3_advance fu hfu b1 (ps_le B n (k + 1)) (by rw [c7]; exact a4)
  refine ⟨ow_sI (ow_sI σ (h + 1) L.length (nI c)) h 2 (nI (L.length + 1)), σ', ?_, e, ⟨b1.fr w', ?_, ?_, e2, e3, e4, by omega, ?_, ?_, ?_⟩, w.tr (xw.of w')⟩
  · rw [f_X3_put, a2]
    show ow_cv (f_X6_add fu h (nI c) σ) _ = _
    rw [s_add6 fu (by omega) a9]
    rfl
  · rw [w'.2]; exact a2
  · rw [w'.1 7 5 (by omega), c7]; exact a3
  · simp; omega
  · rw [w'.1 h 2 (by omega), g_same]; simp
  · intro j hj
    rw [w'.1 (h + 1) j (by omega), g_k _ _ (show h + 1 ≠ h by omega), g_row]
    simp only [List.length_append, List.length_cons, List.length_nil] at hj
    by_cases e : j = L.length
    · subst e; simp [upd]
    · rw [List.getD_eq_getElem?_getD, List.getElem?_append_left (by omega), ← List.getD_eq_getElem?_getD, ← a10 j (by omega)]; simp [upd, e]
theorem s_readOne (fu : Nat) (hfu : 1000 ≤ fu) (hh : 30 ≤ h) (hn : n ≤ 160) {G : Nat → Int32 → ow_S → Option ow_S} {o : Nat} (ho : o ≤ 5) (h5 : o < 5 → gP B n h G 5 (o + 1)) (h0 : o < 5 → gP B n h G 0 (o + 1)) : (∀ σ k L, xq B n h σ k L → ∃ σ', b_X3_readOne fu G (nI o) σ = some σ' ∧ xw h σ σ' ∧ xR B n h 5 o k L σ') ∧ (∀ σ k, xz B n h σ k → ∃ σ', b_X3_readOne fu G (nI o) σ = some σ' ∧ xw h σ σ' ∧ xz B n h σ' k) := by
  constructor
  · intro σ k L q
    have htk := Tk_lt B n k
    have e100 : (100 : Int32) ≤ nI (Tk B n k) ↔ 100 ≤ Tk B n k := n_le (a := 100) (by decide) (by omega)
    have e6 : (6 : Int32) ≤ nI (Tk B n k) ↔ 6 ≤ Tk B n k := n_le (a := 6) (by decide) (by omega)
    have e12 : nI (Tk B n k) = (12 : Int32) ↔ Tk B n k = 12 := n_eq (b := 12) (by omega) (by decide)
    have e15 : nI (Tk B n k) = (15 : Int32) ↔ Tk B n k = 15 := n_eq (b := 15) (by omega) (by decide)
    have e5 : (5 : Int32) ≤ nI o ↔ 5 ≤ o := n_le (a := 5) (by decide) (by omega)
    have opd : Tk B n k < 6 ∨ 100 ≤ Tk B n k → ∃ σ', L_X3_readOne_18 fu G σ = some σ' ∧ xw h σ σ' ∧ xR B n h 5 o k L σ' := by
      intro hc
      obtain ⟨σ1, σ2, p1, p2, q2, w⟩ := s_puta fu hfu hh q (by omega) (Tk B n k)
      refine ⟨σ2, ?_, w, Or.inl ⟨k + 1, [Tk B n k], y_A1 o k L hc htk, q2⟩⟩
      rw [L_X3_readOne_18, q.2.2.2.2.1, p1, e_cv, p2, e_cv]
    have ref : ¬(Tk B n k < 6 ∨ 100 ≤ Tk B n k) → ¬(Tk B n k = 12 ∧ o < 5) → ¬(Tk B n k = 15 ∧ o < 5) → ∃ σ', L_X3_readOne_101 fu G σ = some σ' ∧ xw h σ σ' ∧ xR B n h 5 o k L σ' := by
      intro c1 c2 c3
      obtain ⟨σ1, p1, z1, w⟩ := s_refuse fu hh q
      refine ⟨σ1, ?_, w, Or.inr ⟨k, y_A4 ho c1 c2 c3, z1⟩⟩
      rw [L_X3_readOne_101, p1, e_cv]
    have par : ¬(Tk B n k < 6 ∨ 100 ≤ Tk B n k) → ¬(Tk B n k = 12 ∧ o < 5) → ∃ σ', L_X3_readOne_67 fu G (nI o) σ = some σ' ∧ xw h σ σ' ∧ xR B n h 5 o k L σ' := by
      intro c1 c2
      rw [L_X3_readOne_67, q.2.2.2.2.1]
      simp only [e15, e5]
      by_cases c : Tk B n k = 15
      · rw [if_pos c]
        by_cases c5 : 5 ≤ o
        · rw [if_pos c5]; exact ref c1 c2 (by omega)
        · rw [if_neg c5]
          obtain ⟨σ1, p1, q1, w1⟩ := s_adv fu hfu hh q (by omega)
          obtain ⟨σ2, p2, w2, R⟩ := (h0 (by omega)).1 σ1 (k + 1) L q1
          rw [p1, e_cv, show (1 : Int32) = nI 1 from rfl, n_add, p2, e_cv]
          rcases R with ⟨k', cs, r, q2⟩ | ⟨k', r, z2⟩
          · obtain ⟨σ3, p3, w3, cc⟩ := s_expect fu hfu hh q2 (c := 16) (by decide)
            rw [show (16 : Int32) = nI 16 from rfl, p3, e_cv]
            refine ⟨σ3, rfl, (w1.tr w2).tr w3, ?_⟩
            rcases cc with ⟨h16, q3⟩ | ⟨h16, z3⟩
            · exact Or.inl ⟨k' + 1, cs, y_A3 c (by omega) r h16, q3⟩
            · exact Or.inr ⟨k', y_A3n c (by omega) r h16, z3⟩
          · obtain ⟨σ3, p3, z3, w3⟩ := s_expectz fu hh hn z2 (c := 16) (by decide)
            rw [show (16 : Int32) = nI 16 from rfl, p3, e_cv]
            exact ⟨σ3, rfl, (w1.tr w2).tr w3, Or.inr ⟨k', y_A3f c (by omega) r, z3⟩⟩
      · rw [if_neg c]; exact ref c1 c2 (by omega)
    rw [b_X3_readOne, q.2.2.2.2.1]
    simp only [e100, e6, e12, e5]
    by_cases c1 : 100 ≤ Tk B n k
    · rw [if_pos c1]; exact opd (Or.inr c1)
    · rw [if_neg c1]
      by_cases c2 : 6 ≤ Tk B n k
      · rw [if_pos c2]
        by_cases c : Tk B n k = 12
        · rw [if_pos c]
          by_cases c5 : 5 ≤ o
          · rw [if_pos c5]; exact par (by omega) (by omega)
          · rw [if_neg c5]
            obtain ⟨σ1, p1, q1, w1⟩ := s_adv fu hfu hh q (by omega)
            obtain ⟨σ2, p2, w2, R⟩ := (h5 (by omega)).1 σ1 (k + 1) L q1
            rw [p1, e_cv, show (1 : Int32) = nI 1 from rfl, n_add, p2, e_cv, show (14 : Int32) = nI 14 from rfl]
            rcases R with ⟨k', cs, r, q2⟩ | ⟨k', r, z2⟩
            · have hlen := (y_A2 c (by omega) r).2.1
              have a8 := q.2.2.2.2.2.2.2.1
              simp only [List.length_append, List.length_cons, List.length_nil] at hlen
              obtain ⟨σ3, p3, q3, w3⟩ := s_put fu hh q2 14 (by simp only [List.length_append]; omega)
              rw [p3, e_cv]
              exact ⟨σ3, rfl, (w1.tr w2).tr w3, Or.inl ⟨k', cs ++ [14], y_A2 c (by omega) r, by simpa only [List.append_assoc] using q3⟩⟩
            · obtain ⟨σ3, p3, z3, w3⟩ := s_putz fu hh z2 (nI 14)
              rw [p3, e_cv]
              exact ⟨σ3, rfl, (w1.tr w2).tr w3, Or.inr ⟨k', y_A2f c (by omega) r, z3⟩⟩
        · rw [if_neg c]; exact par (by omega) (by omega)
      · rw [if_neg c2]; exact opd (by omega)
  · intro σ k z
    obtain ⟨σ1, p1, z1, w1⟩ := s_refusez fu hh hn z
    refine ⟨σ1, ?_, w1, z1⟩
    rw [b_X3_readOne, z.1, if_neg (by decide), if_pos (by decide), if_neg (by decide), L_X3_readOne_67, z.1, if_neg (by decide), L_X3_readOne_101, p1, e_cv]
theorem s_readNot (fu : Nat) (hfu : 1000 ≤ fu) (hh : 30 ≤ h) {G : Nat → Int32 → ow_S → Option ow_S} {o : Nat} (ho : o ≤ 5) (h2 : o < 5 → gP B n h G 2 (o + 1)) (h3 : gP B n h G 3 o) : (∀ σ k L, xq B n h σ k L → ∃ σ', b_X3_readNot fu G (nI o) σ = some σ' ∧ xw h σ σ' ∧ xR B n h 2 o k L σ') ∧ (∀ σ k, xz B n h σ k → ∃ σ', b_X3_readNot fu G (nI o) σ = some σ' ∧ xw h σ σ' ∧ xz B n h σ' k) := by
  constructor
  · intro σ k L q
    have htk := Tk_lt B n k
    have e8 : nI (Tk B n k) = (8 : Int32) ↔ Tk B n k = 8 := n_eq (b := 8) (by omega) (by decide)
    have e5 : (5 : Int32) ≤ nI o ↔ 5 ≤ o := n_le (a := 5) (by decide) (by omega)
    have like : (Tk B n k = 8 → o = 5) → ∃ σ', L_X3_readNot_32 fu G (nI o) σ = some σ' ∧ xw h σ σ' ∧ xR B n h 2 o k L σ' := by
      intro h8
      obtain ⟨σ1, p1, w1, R⟩ := h3.1 σ k L q
      rw [L_X3_readNot_32, p1, e_cv]
      rcases R with ⟨k1, cs, r, q1⟩ | ⟨k1, r, z1⟩
      · have htk1 := Tk_lt B n k1
        have e9 : nI (Tk B n k1) = (9 : Int32) ↔ Tk B n k1 = 9 := n_eq (b := 9) (by omega) (by decide)
        have e10 : nI (Tk B n k1) = (10 : Int32) ↔ Tk B n k1 = 10 := n_eq (b := 10) (by omega) (by decide)
        rw [q1.2.2.2.2.1]
        simp only [e9, e10]
        by_cases c : Tk B n k1 = 9 ∨ Tk B n k1 = 10
        · have hgo : ∀ K : Option ow_S, (if Tk B n k1 = 9 then K else if Tk B n k1 = 10 then K else some σ1) = K := by
            intro K
            by_cases c1 : Tk B n k1 = 9
            · rw [if_pos c1]
            · rw [if_neg c1, if_pos (by omega)]
          rw [hgo, L_X3_readNot_55, e_let, q1.2.2.2.2.1]
          obtain ⟨σ2, p2, q2, w2⟩ := s_adv fu hfu hh q1 (by omega)
          obtain ⟨σ3, p3, w3, R⟩ := h3.1 σ2 (k1 + 1) (L ++ cs) q2
          rw [p2, e_cv, p3, e_cv]
          rcases R with ⟨k2, ds, s, q3⟩ | ⟨k2, s, z3⟩
          · have r3 := y_N3 h8 c r s
            have hlen := r3.2.1
            have a8 := q.2.2.2.2.2.2.2.1
            simp only [List.length_append, List.length_cons, List.length_nil] at hlen
            obtain ⟨σ4, p4, q4, w4⟩ := s_put fu hh q3 (Tk B n k1) (by simp only [List.length_append]; omega)
            rw [p4, e_cv]
            exact ⟨σ4, rfl, ((w1.tr w2).tr w3).tr w4, Or.inl ⟨k2, _, r3, by simpa only [List.append_assoc] using q4⟩⟩
          · obtain ⟨σ4, p4, z4, w4⟩ := s_putz fu hh z3 (nI (Tk B n k1))
            rw [p4, e_cv]
            exact ⟨σ4, rfl, ((w1.tr w2).tr w3).tr w4, Or.inr ⟨k2, y_N3f h8 c r s, z4⟩⟩
        · rw [if_neg (fun hc => c (Or.inl hc)), if_neg (fun hc => c (Or.inr hc))]
          exact ⟨σ1, rfl, w1, Or.inl ⟨k1, cs, y_N2 h8 r c, q1⟩⟩
      · rw [z1.1, if_neg (by decide), if_neg (by decide)]
        exact ⟨σ1, rfl, w1, Or.inr ⟨k1, y_N2f h8 r, z1⟩⟩
    rw [b_X3_readNot, q.2.2.2.2.1]
    simp only [e8, e5]
    by_cases c : Tk B n k = 8
    · rw [if_pos c]
      by_cases c5 : 5 ≤ o
      · rw [if_pos c5]; exact like (fun _ => by omega)
      · rw [if_neg c5]
        obtain ⟨σ1, p1, q1, w1⟩ := s_adv fu hfu hh q (by omega)
        obtain ⟨σ2, p2, w2, R⟩ := (h2 (by omega)).1 σ1 (k + 1) L q1
        rw [p1, e_cv, show (1 : Int32) = nI 1 from rfl, n_add, p2, e_cv, show (8 : Int32) = nI 8 from rfl]
        rcases R with ⟨k', cs, r, q2⟩ | ⟨k', r, z2⟩
        · have hlen := (y_N1 c (by omega) r).2.1
          have a8 := q.2.2.2.2.2.2.2.1
          simp only [List.length_append, List.length_cons, List.length_nil] at hlen
          obtain ⟨σ3, p3, q3, w3⟩ := s_put fu hh q2 8 (by simp only [List.length_append]; omega)
          rw [p3, e_cv]
          exact ⟨σ3, rfl, (w1.tr w2).tr w3, Or.inl ⟨k', cs ++ [8], y_N1 c (by omega) r, by simpa only [List.append_assoc] using q3⟩⟩
        · obtain ⟨σ3, p3, z3, w3⟩ := s_putz fu hh z2 (nI 8)
          rw [p3, e_cv]
          exact ⟨σ3, rfl, (w1.tr w2).tr w3, Or.inr ⟨k', y_N1f c (by omega) r, z3⟩⟩
    · rw [if_neg c]; exact like (fun h => absurd h c)
  · intro σ k z
    obtain ⟨σ1, p1, w1, z1⟩ := h3.2 σ k z
    refine ⟨σ1, ?_, w1, z1⟩
    rw [b_X3_readNot, z.1, if_neg (by decide), L_X3_readNot_32, p1, e_cv, z1.1, if_neg (by decide), if_neg (by decide)]
theorem s_X3_G (fu : Nat) (hfu : 1000 ≤ fu) (hh : 30 ≤ h) (hn : n ≤ 160) : ∀ (d t o : Nat), t ≤ 5 → o ≤ 5 → 6 * (5 - o) + (6 - t) ≤ d → gP B n h (f_X3_G fu d) t o := by
  intro d
  induction d with
  | zero => intro t o ht ho hd; omega
  | succ d ih =>
    intro t o ht ho hd
    have un : ∀ σ, f_X3_G fu (d + 1) t (nI o) σ = if t = 0 then b_X3_readEither fu (f_X3_G fu d) (nI o) σ else if t = 1 then b_X3_readBoth fu (f_X3_G fu d) (nI o) σ else if t = 2 then b_X3_readNot fu (f_X3_G fu d) (nI o) σ else if t = 3 then b_X3_readSum fu (f_X3_G fu d) (nI o) σ else if t = 4 then b_X3_readTerm fu (f_X3_G fu d) (nI o) σ else b_X3_readOne fu (f_X3_G fu d) (nI o) σ := fun σ => rfl
    unfold gP
    simp only [un]
    rcases (show t = 0 ∨ t = 1 ∨ t = 2 ∨ t = 3 ∨ t = 4 ∨ t = 5 by omega) with rfl | rfl | rfl | rfl | rfl | rfl
    · exact s_readEither fu hfu hh (ih 1 o (by decide) ho (by omega))
    · exact s_readBoth fu hfu hh (ih 2 o (by decide) ho (by omega))
    · exact s_readNot fu hfu hh ho (fun h => ih 2 (o + 1) (by decide) (by omega) (by omega)) (ih 3 o (by decide) ho (by omega))
    · exact s_readSum fu hfu hh (ih 4 o (by decide) ho (by omega))
    · exact s_readTerm fu hfu hh (ih 5 o (by decide) ho (by omega))
    · exact s_readOne fu hfu hh hn ho (fun h => ih 5 (o + 1) (by decide) (by omega) (by omega)) (fun h => ih 0 (o + 1) (by decide) (by omega) (by omega))
end
