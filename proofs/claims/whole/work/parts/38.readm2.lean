/-! the model's reader follows -/
theorem g_self {σ : ow_S} {k j : Nat} {v : Int32} (h : σ.1 k j = v) : ow_sI σ k j v = σ := by
  refine Prod.ext (funext fun a => funext fun b => ?_) rfl
  rw [g_if]
  by_cases e : a = k
  · subst e
    rw [if_pos rfl]
    by_cases e2 : b = j
    · subst e2; rw [if_pos rfl, h]
    · rw [if_neg e2]
  · rw [if_neg e]
theorem y_cnt_le : ∀ S : List Nat, y_cnt S ≤ S.length := by
  intro S
  induction S with
  | nil => exact Nat.le_refl _
  | cons c S ih => rw [y_cnt, List.length_cons]; split <;> omega
theorem y_unw_head (r : Nat) : ∀ (S L : List Nat) (o : Nat) (c : Nat) (S' : List Nat), (y_unw r S L o).1 = c :: S' → y_rank c < r := by
  intro S
  induction S with
  | nil => intro L o c S' h; simp [y_unw] at h
  | cons d S ih =>
    intro L o c S' h
    rw [y_unw] at h
    by_cases c1 : y_rank d < r
    · rw [if_pos c1] at h
      simp only [List.cons.injEq] at h
      rw [← h.1]; exact c1
    · rw [if_neg c1] at h; exact ih _ _ _ _ h
section
variable {B : Nat → Nat} {n ru : Nat}
theorem s_opens (fu : Nat) {σ : ow_S} {S L : List Nat} {o c : Nat} (h : mc B n ru σ S L o) (hl : S.length < 200) (hc : c = 0 ∨ c = 8 ∨ c = 14) : (o = 5 → f_X9_opensOne fu (nI (t_cm c)) σ = some (0, σ)) ∧ (o ≠ 5 → ∃ σ', f_X9_opensOne fu (nI (t_cm c)) σ = some (1, σ') ∧ mc B n ru σ' (c :: S) L (o + 1) ∧ mw ru σ σ' ∧ mn σ σ') := by
  have ho : o = y_cnt S := h.2.2.2.2.2.2.2.2.2
  have hle := y_cnt_le S
  have h31 : σ.1 56 31 = nI o := h.2.2.2.2.2.2.2.1
  have e : nI o = (5 : Int32) ↔ o = 5 := n_eq (b := 5) (by omega) (by decide)
  rw [f_X9_opensOne, h31]
  simp only [e]
  constructor
  · intro h5; rw [if_pos h5]
  · intro h5
    obtain ⟨σ', a, b, w, q⟩ := s_X9_holds fu h hl (c := c) (by unfold y_sg; omega) _ (o' := o + 1) rfl (by rw [y_cnt, if_pos hc]; omega)
    rw [if_neg h5, show (1 : Int32) = nI 1 from rfl, n_add, e_let, a, e_cv]
    exact ⟨σ', rfl, b, w, q⟩
theorem s_between (fu : Nat) (hfu : 1000 ≤ fu) (hru : ru < 6) {σ : ow_S} {U : List Nat × List Nat × Nat} {t : Nat} (h : mc B n ru σ U.1 U.2.1 U.2.2) (hl : U.1.length + U.2.1.length < 200) (ht : y_op t) : (y_rank t = 4 → y_top4 (y_u 5 U).1 → ∃ σ', f_X9_between fu (nI (t_cm t)) σ = some (0, σ') ∧ mw ru σ σ' ∧ mn σ σ') ∧ (¬(y_rank t = 4 ∧ y_top4 (y_u 5 U).1) → ∃ σ', f_X9_between fu (nI (t_cm t)) σ = some (1, σ') ∧ mc B n ru σ' (t :: (y_u (if y_rank t = 4 then 5 else y_rank t) U).1) (y_u (if y_rank t = 4 then 5 else y_rank t) U).2.1 (y_u (if y_rank t = 4 then 5 else y_rank t) U).2.2 ∧ (y_u (if y_rank t = 4 then 5 else y_rank t) U).1.length + (y_u (if y_rank t = 4 then 5 else y_rank t) U).2.1.length = U.1.length + U.2.1.length ∧ mw ru σ σ' ∧ mn σ σ') := by
  have hsg : y_sg t := by unfold y_sg; unfold y_op at ht; omega
  have hr7 := y_rank_le t
  have hr1 : 1 ≤ y_rank t := by
    unfold y_op at ht
    rcases (show t = 6 ∨ t = 7 ∨ t = 9 ∨ t = 10 ∨ t = 11 ∨ t = 12 ∨ t = 13 by omega) with rfl | rfl | rfl | rfl | rfl | rfl | rfl <;> decide
  have e4 : nI (y_rank t) = (4 : Int32) ↔ y_rank t = 4 := n_eq (b := 4) (by omega) (by decide)
  obtain ⟨σ1, p1, m1, l1, w1, q1⟩ := s_X9_unwinds fu hfu hru (r := if y_rank t = 4 then 5 else y_rank t) (by split <;> omega) (by split <;> omega) h hl
  have red : f_X9_between fu (nI (t_cm t)) σ = L_X9_between_17 fu (nI (t_cm t)) (nI (if y_rank t = 4 then 5 else y_rank t)) σ := by
    rw [f_X9_between, s_X9_rank fu hsg, e_cl]
    simp only [e4]
    by_cases c : y_rank t = 4
    · rw [if_pos c, if_pos c]; rfl
    · rw [if_neg c, if_neg c, s_X9_rank fu hsg, e_cl]
  have hold : (L_X9_between_55 fu (nI (t_cm t)) σ1) = L_X9_between_55 fu (nI (t_cm t)) σ1 → ∃ σ', L_X9_between_55 fu (nI (t_cm t)) σ1 = some (1, σ') ∧ mc B n ru σ' (t :: (y_u (if y_rank t = 4 then 5 else y_rank t) U).1) (y_u (if y_rank t = 4 then 5 else y_rank t) U).2.1 (y_u (if y_rank t = 4 then 5 else y_rank t) U).2.2 ∧ mw ru σ1 σ' ∧ mn σ1 σ' := by
    intro _
    obtain ⟨σ', a, b, w, q⟩ := s_X9_holds fu m1 (by omega) hsg σ1 (g_self m1.2.2.2.2.2.2.2.1).symm (by rw [y_cnt, if_neg (show ¬(t = 0 ∨ t = 8 ∨ t = 14) by unfold y_op at ht; omega), Nat.zero_add]; exact m1.2.2.2.2.2.2.2.2.2)
    exact ⟨σ', by rw [L_X9_between_55, a, e_cv], b, w, q⟩
  rw [red, L_X9_between_17, p1, e_cv, s_X9_rank fu hsg, e_cl]
  simp only [e4]
  have h30 := m1.2.2.2.2.2.1
  have hst := m1.2.2.2.2.2.2.1
  have hval := m1.2.2.2.2.2.2.2.2.1
  constructor
  · intro c4 ct
    rw [if_pos c4] at h30 hst hval l1 p1
    rw [if_pos c4, h30]
    obtain ⟨S1, hS1⟩ : ∃ S1, S1 = (y_u 5 U).1 := ⟨_, rfl⟩
    rw [← hS1] at hst hval ct l1 ⊢
    cases S1 with
    | nil => exact absurd (show y_rank 0 = 4 from ct) (by decide)
    | cons c S1 =>
      simp only [List.length_cons] at l1 ⊢
      rw [if_neg (nI_nle (by omega) (by omega))]
      simp only [show nI (S1.length + 1) - (1 : Int32) = nI S1.length from nI_pred _]
      rw [e_ckn _ (by omega) (by omega), n_cl (a := S1.length) (by omega), hst.1, s_X9_rank fu (hval c (by simp)), e_cl, show y_rank c = 4 from ct, if_pos (by decide)]
      exact ⟨σ1, rfl, w1, q1⟩
  · intro hc
    obtain ⟨σ', a, b, w, q⟩ := hold rfl
    refine ⟨σ', ?_, b, l1, w1.tr w, q1.tr q⟩
    by_cases c4 : y_rank t = 4
    · rw [if_pos c4] at h30 hst hval l1 p1
      have ct : ¬ y_top4 (y_u 5 U).1 := fun h => hc ⟨c4, h⟩
      rw [if_pos c4, h30]
      obtain ⟨S1, hS1⟩ : ∃ S1, S1 = (y_u 5 U).1 := ⟨_, rfl⟩
      rw [← hS1] at hst hval ct l1 ⊢
      cases S1 with
      | nil => rw [if_pos (by decide)]; exact a
      | cons c S1 =>
        simp only [List.length_cons] at l1 ⊢
        have e5 : nI (y_rank c) = (4 : Int32) ↔ y_rank c = 4 := n_eq (b := 4) (by have := y_rank_le c; omega) (by decide)
        rw [if_neg (nI_nle (by omega) (by omega))]
        simp only [show nI (S1.length + 1) - (1 : Int32) = nI S1.length from nI_pred _]
        rw [e_ckn _ (by omega) (by omega), n_cl (a := S1.length) (by omega), hst.1, s_X9_rank fu (hval c (by simp)), e_cl, if_neg (fun h => ct (e5.mp h))]
        exact a
    · rw [if_neg c4]; exact a
theorem s_eRead_loop (fu : Nat) (hfu : 1000 ≤ fu) (hru : ru < 6) : ∀ (n' k : Nat) (w m : Bool) (S L : List Nat) (o fn : Nat) (σ : ow_S) (x2 : Int32) (k' : Nat) (res : Option (List Nat)), mc B n ru σ S L o → σ.1 56 24 = nI (ps B n k) → k ≤ ps B n k → S.length + L.length ≤ k → (w = true → x2 = if m = true then 1 else 0) → sy (Tk B n) n' k w m (S, L, o) = some (k', res) → n' ≤ fn → ∃ σ', L_X9_eRead_14 fu fn (if w = true then 1 else 0) x2 σ = some (if res.isSome = true then 1 else 0, σ') ∧ mw ru σ σ' ∧ σ'.1 56 24 = nI (ps B n (k' + 1)) ∧ σ'.1 56 25 = nI (lx_pl B n (ps B n k')) ∧ ∀ L', res = some L' → mc B n ru σ' [] L' 0 ∧ L'.length ≤ k' ∧ k' ≤ ps B n k' ∧ Tk B n k' ≠ 21 := by
  intro n'
  induction n' with
  | zero => intro k w m S L o fn σ x2 k' res _ _ _ _ _ h; simp [sy] at h
  | succ n' ih =>
    intro k w m S L o fn σ x2 k' res hm h24 hk hl hx hs hf
    obtain ⟨fn, rfl⟩ : ∃ q, fn = q + 1 := ⟨fn - 1, by omega⟩
    have hps := ps_le B n k
    have hn := hm.1.2.1
    have htk := lx_tk_ok B n (ps B n k)
    obtain ⟨c17, c16, c1, c2, c6, c12, c15, c3, c0⟩ := y_t_c (t := Tk B n k) (by have : lx_tk B n (ps B n k) = Tk B n k := rfl; omega)
    obtain ⟨σ1, p1, b24, b25, b26, b27, w1⟩ := s_X9_next fu hfu hm.1 hm.2.1 hps h24
    have b26' : σ1.1 56 26 = y_t (Tk B n k) := b26
    have b24' : σ1.1 56 24 = nI (ps B n (k + 1)) := b24
    have m1 := hm.fr w1
    have go : ∀ (w m : Bool) (S L : List Nat) (o : Nat) (σ2 : ow_S) (x2 : Int32), Tk B n k ≠ 21 → mc B n ru σ2 S L o → mn σ1 σ2 → mw ru σ1 σ2 → S.length + L.length ≤ k + 1 → (w = true → x2 = if m = true then 1 else 0) → sy (Tk B n) n' (k + 1) w m (S, L, o) = some (k', res) → ∃ σ', L_X9_eRead_14 fu fn (if w = true then 1 else 0) x2 σ2 = some (if res.isSome = true then 1 else 0, σ') ∧ mw ru σ σ' ∧ σ'.1 56 24 = nI (ps B n (k' + 1)) ∧ σ'.1 56 25 = nI (lx_pl B n (ps B n k')) ∧ ∀ L', res = some L' → mc B n ru σ' [] L' 0 ∧ L'.length ≤ k' ∧ k' ≤ ps B n k' ∧ Tk B n k' ≠ 21 := by
      intro w m S L o σ2 x2 h21 hm2 hq hw hl hx hs
      have hlt := ps_lt B n k h21
      obtain ⟨σ3, p3, w3, r⟩ := ih (k + 1) w m S L o fn σ2 x2 k' res hm2 ((hq 24 (by decide) (by decide)).trans b24') (by omega) hl hx hs (by omega)
      exact ⟨σ3, p3, (w1.m.tr hw).tr w3, r⟩
    have stop : ∀ σ2 : ow_S, mn σ1 σ2 → mw ru σ1 σ2 → some (k, (none : Option (List Nat))) = some (k', res) → ∃ σ', some ((0 : Int32), σ2) = some (if res.isSome = true then 1 else 0, σ') ∧ mw ru σ σ' ∧ σ'.1 56 24 = nI (ps B n (k' + 1)) ∧ σ'.1 56 25 = nI (lx_pl B n (ps B n k')) ∧ ∀ L', res = some L' → mc B n ru σ' [] L' 0 ∧ L'.length ≤ k' ∧ k' ≤ ps B n k' ∧ Tk B n k' ≠ 21 := by
      intro σ2 hq hw he
      simp only [Option.some.injEq, Prod.mk.injEq] at he
      obtain ⟨rfl, rfl⟩ := he
      exact ⟨σ2, rfl, w1.m.tr hw, (hq 24 (by decide) (by decide)).trans b24', (hq 25 (by decide) (by decide)).trans b25, fun L' h => absurd h (by simp)⟩
    rw [L_X9_eRead_14, p1, e_cv, b26']
    simp only [c17, c16, c1, c2, c6]
    cases w with
    | true =>
      rw [if_pos rfl, if_neg (by decide)]
      rw [sy] at hs
      have c99 : Tk B n k ≠ 8 ∨ m = false → ¬(Tk B n k < 6 ∨ 100 ≤ Tk B n k) → ∃ σ', L_X9_eRead_99 fu (L_X9_eRead_14 fu fn) 1 σ1 = some (if res.isSome = true then 1 else 0, σ') ∧ mw ru σ σ' ∧ σ'.1 56 24 = nI (ps B n (k' + 1)) ∧ σ'.1 56 25 = nI (lx_pl B n (ps B n k')) ∧ ∀ L', res = some L' → mc B n ru σ' [] L' 0 ∧ L'.length ≤ k' ∧ k' ≤ ps B n k' ∧ Tk B n k' ≠ 21 := by
        intro h8 h1
        rw [if_neg h1, if_neg (fun h => by rcases h8 with h8 | h8; exact h8 h.1; rw [h8] at h; exact absurd h.2 (by decide))] at hs
        rw [L_X9_eRead_99, b26']
        simp only [c12, c15]
        by_cases d12 : Tk B n k = 12
        · rw [if_pos d12] at hs
          rw [if_pos d12]
          obtain ⟨q5, qn⟩ := s_opens fu m1 (by omega) (c := 14) (by omega)
          by_cases h5 : o = 5
          · rw [if_pos h5] at hs
            rw [show (19 : Int32) = nI (t_cm 14) from rfl, q5 h5, e_cl, if_pos rfl]
            exact stop σ1 (fun _ _ _ => rfl) (mw.rf ru _) hs
          · rw [if_neg h5] at hs
            obtain ⟨σ2, p2, m2, w2, q2⟩ := qn h5
            rw [show (19 : Int32) = nI (t_cm 14) from rfl, p2, e_cl, if_neg (by decide)]
            exact go true false _ _ _ σ2 0 (by omega) m2 q2 w2 (by simp only [List.length_cons]; omega) (fun _ => rfl) hs
        · rw [if_neg d12] at hs
          rw [if_neg d12]
          by_cases d15 : Tk B n k = 15
          · rw [if_pos d15] at hs
            rw [if_pos d15]
            obtain ⟨q5, qn⟩ := s_opens fu m1 (by omega) (c := 0) (by omega)
            by_cases h5 : o = 5
            · rw [if_pos h5] at hs
              rw [show (0 : Int32) = nI (t_cm 0) from rfl, q5 h5, e_cl, show nI (t_cm 0) = (0 : Int32) from rfl, if_pos rfl]
              exact stop σ1 (fun _ _ _ => rfl) (mw.rf ru _) hs
            · rw [if_neg h5] at hs
              obtain ⟨σ2, p2, m2, w2, q2⟩ := qn h5
              rw [show (0 : Int32) = nI (t_cm 0) from rfl, p2, e_cl, show nI (t_cm 0) = (0 : Int32) from rfl, if_neg (by decide)]
              exact go true true _ _ _ σ2 1 (by omega) m2 q2 w2 (by simp only [List.length_cons]; omega) (fun _ => rfl) hs
          · rw [if_neg d15] at hs
            rw [if_neg d15]
            exact stop σ1 (fun _ _ _ => rfl) (mw.rf ru _) hs
      by_cases h1 : Tk B n k < 6 ∨ 100 ≤ Tk B n k
      · rw [if_pos h1] at hs
        obtain ⟨σ2, p2, m2, w2, q2⟩ := s_X9_puts fu hru m1 (by omega) (Tk B n k)
        obtain ⟨σ3, p3, m3, l3, w3, q3⟩ := s_X9_unwinds fu hfu hru (r := 7) (by decide) (by decide) (U := (S, L ++ [Tk B n k], o)) m2 (by simp only [List.length_append, List.length_cons, List.length_nil]; omega)
        simp only [List.length_append, List.length_cons, List.length_nil] at l3
        have h61 : ∃ σ', L_X9_eRead_61 fu (L_X9_eRead_14 fu fn) x2 (nI (t_cm (Tk B n k))) σ1 = some (if res.isSome = true then 1 else 0, σ') ∧ mw ru σ σ' ∧ σ'.1 56 24 = nI (ps B n (k' + 1)) ∧ σ'.1 56 25 = nI (lx_pl B n (ps B n k')) ∧ ∀ L', res = some L' → mc B n ru σ' [] L' 0 ∧ L'.length ≤ k' ∧ k' ≤ ps B n k' ∧ Tk B n k' ≠ 21 := by
          rw [L_X9_eRead_61, p2, e_cv, show (7 : Int32) = nI 7 from rfl, p3, e_cv]
          exact go false false _ _ _ σ3 x2 (by omega) m3 (q2.tr q3) (w2.tr w3) (by omega) (fun h => absurd h (by decide)) hs
        have h38 : L_X9_eRead_38 fu (L_X9_eRead_14 fu fn) x2 σ1 = L_X9_eRead_61 fu (L_X9_eRead_14 fu fn) x2 (nI (t_cm (Tk B n k))) σ1 := by
          have b27' : y_v (Tk B n k) (σ1.1 56 27) := b27
          rw [L_X9_eRead_38, b26']
          simp only [c1]
          by_cases h100 : 100 ≤ Tk B n k
          · rw [if_pos h100, b27'.2.2.2.2 h100, show (100000 : Int32) = nI 100000 from rfl, n_add]
            congr 2
            unfold t_cm; rw [if_pos h100]; omega
          · rw [if_neg h100, b27'.1 (by omega)]
            congr 2
            unfold t_cm; rw [if_neg h100, if_pos (by omega)]
        by_cases h100 : 100 ≤ Tk B n k
        · rw [if_pos h100, h38]; exact h61
        · rw [if_neg h100, if_pos (by omega), h38]; exact h61
      · rw [if_neg (fun h => h1 (Or.inr h)), if_neg (fun h => h1 (Or.inl h))]
        by_cases h8 : Tk B n k = 8
        · rw [if_pos h8]
          have hx := hx rfl
          cases m with
          | false =>
            rw [show x2 = 0 by rw [hx]; rfl, if_pos rfl]
            exact c99 (Or.inr rfl) h1
          | true =>
            rw [if_neg h1, if_pos ⟨h8, rfl⟩] at hs
            rw [show x2 = 1 by rw [hx]; rfl, if_neg (by decide)]
            obtain ⟨q5, qn⟩ := s_opens fu m1 (by omega) (c := 8) (by omega)
            by_cases h5 : o = 5
            · rw [if_pos h5] at hs
              rw [show (13 : Int32) = nI (t_cm 8) from rfl, q5 h5, e_cl, if_pos rfl]
              exact stop σ1 (fun _ _ _ => rfl) (mw.rf ru _) hs
            · rw [if_neg h5] at hs
              obtain ⟨σ2, p2, m2, w2, q2⟩ := qn h5
              rw [show (13 : Int32) = nI (t_cm 8) from rfl, p2, e_cl, if_neg (by decide)]
              exact go true true _ _ _ σ2 1 (by omega) m2 q2 w2 (by simp only [List.length_cons]; omega) (fun _ => rfl) hs
        · rw [if_neg h8]; exact c99 (Or.inl h8) h1
    | false =>
      simp only [show (if false = true then (1 : Int32) else 0) = 0 from rfl]
      rw [if_pos trivial]
      rw [sy] at hs
      by_cases h17 : Tk B n k = 17
      · rw [if_pos h17] at hs
        rw [if_pos h17]
        obtain ⟨σ2, p2, m2, l2, w2, q2⟩ := s_X9_unwinds fu hfu hru (r := 1) (by decide) (by decide) (U := (S, L, o)) m1 (by show S.length + L.length < 200; omega)
        rw [show (1 : Int32) = nI 1 from rfl, p2, e_cv, m2.2.2.2.2.2.1]
        have l2' : (y_u 1 (S, L, o)).1.length + (y_u 1 (S, L, o)).2.1.length = S.length + L.length := l2
        have e := n_eq (a := (y_u 1 (S, L, o)).1.length) (b := 0) (by omega) (by decide)
        have e' : nI (y_u 1 (S, L, o)).1.length = 0 ↔ (y_u 1 (S, L, o)).1 = [] := e.trans List.length_eq_zero_iff
        simp only [e']
        by_cases hz : (y_u 1 (S, L, o)).1 = []
        · rw [if_pos hz] at hs
          rw [if_pos hz]
          simp only [Option.some.injEq, Prod.mk.injEq] at hs
          obtain ⟨rfl, rfl⟩ := hs
          refine ⟨σ2, rfl, w1.m.tr w2, (q2 24 (by decide) (by decide)).trans b24', (q2 25 (by decide) (by decide)).trans b25, fun L' h => ?_⟩
          simp only [Option.some.injEq] at h
          subst h
          have ho := m2.2.2.2.2.2.2.2.2.2
          rw [hz] at m2 ho l2'
          rw [ho] at m2
          exact ⟨m2, by simp only [List.length_nil] at l2'; omega, hk, by omega⟩
        · rw [if_neg hz] at hs
          rw [if_neg hz]
          exact stop σ2 q2 w2 hs
      · rw [if_neg h17] at hs
        rw [if_neg h17]
        by_cases h16 : Tk B n k = 16
        · rw [if_pos h16] at hs
          rw [if_pos h16]
          obtain ⟨σ2, p2, m2, l2, w2, q2⟩ := s_X9_unwinds fu hfu hru (r := 1) (by decide) (by decide) (U := (S, L, o)) m1 (by show S.length + L.length < 200; omega)
          have hhead := y_unw_head 1 S L o
          rw [show (1 : Int32) = nI 1 from rfl, p2, e_cv]
          have l2' : (y_u 1 (S, L, o)).1.length + (y_u 1 (S, L, o)).2.1.length = S.length + L.length := l2
          have hh2 : ∀ c S', (y_u 1 (S, L, o)).1 = c :: S' → y_rank c < 1 := hhead
          revert m2 l2' hs hh2
          generalize y_u 1 (S, L, o) = U
          obtain ⟨S1, L1, o1⟩ := U
          intro hs m2 l2' hh2
          dsimp only at m2 l2' hh2 hs
          rw [m2.2.2.2.2.2.1]
          match S1, m2, l2', hh2, hs with
          | [], m2, l2', hh2, hs =>
            rw [if_pos rfl] at hs
            rw [if_pos (by decide)]
            exact stop σ2 q2 w2 hs
          | c :: S1, m2, l2', hh2, hs =>
            rw [if_neg (by simp)] at hs
            simp only [List.length_cons] at l2' ⊢
            obtain ⟨a1, a2, a3, a4, a5, a6, a7, a8, a9, a10⟩ := m2
            have hsg : y_sg c := a9 c (by simp)
            have hc0 : c = 0 := by
              have h1 := hh2 c S1 rfl
              unfold y_sg at hsg
              rcases (show c = 0 ∨ c = 6 ∨ c = 7 ∨ c = 8 ∨ c = 9 ∨ c = 10 ∨ c = 11 ∨ c = 12 ∨ c = 13 ∨ c = 14 by omega) with rfl | rfl | rfl | rfl | rfl | rfl | rfl | rfl | rfl | rfl
              · rfl
              all_goals exact absurd h1 (by decide)
            have ho : o1 = 1 + y_cnt S1 := by rw [a10, y_cnt, if_pos (by omega)]
            rw [if_neg (by rw [show (0 : Int32) = nI 0 from rfl, n_eq (by omega) (by decide)]; omega), n_sub (by omega), Nat.add_sub_cancel, e_let, g_56s, if_neg (by decide), a8, n_sub (by omega), e_let]
            obtain ⟨d1, d2, d3, d4⟩ := m_keep (ru := ru) (σ := σ2) (j := 30) (v := nI S1.length) (by omega) a1 a2
            obtain ⟨e1, e2, e3, e4⟩ := m_keep (ru := ru) (σ := ow_sI σ2 56 30 (nI S1.length)) (j := 31) (v := nI (o1 - 1)) (by omega) d1 d2
            have m3 : mc B n ru (ow_sI (ow_sI σ2 56 30 (nI S1.length)) 56 31 (nI (o1 - 1))) S1 L1 (o1 - 1) := by
              refine ⟨e1, e2, ?_, ?_, ?_, ?_, ?_, g_same _ _ _ _, fun x hx => a9 x (by simp [hx]), by omega⟩
              · rw [g_56s, if_neg (by decide), g_56s, if_neg (by decide)]; exact a3
              · rw [g_56s, if_neg (by decide), g_56s, if_neg (by decide)]; exact a4
              · intro j hj
                rw [g_k _ _ (show 62 ≠ 56 by decide), g_k _ _ (show 62 ≠ 56 by decide)]; exact a5 j hj
              · rw [g_56s, if_neg (by decide), g_56s, if_pos rfl]
              · rw [g_k _ _ (show 71 ≠ 56 by decide), g_k _ _ (show 71 ≠ 56 by decide)]; exact a7.2
            obtain ⟨σ4, p4, m4, l4, w4, q4⟩ := s_X9_unwinds fu hfu hru (r := 7) (by decide) (by decide) (U := (S1, L1, o1 - 1)) m3 (by show S1.length + L1.length < 200; omega)
            rw [show (7 : Int32) = nI 7 from rfl, p4, e_cv]
            have l4' : (y_u 7 (S1, L1, o1 - 1)).1.length + (y_u 7 (S1, L1, o1 - 1)).2.1.length = S1.length + L1.length := l4
            exact go false false _ _ _ σ4 x2 (by omega) m4 (((q2.tr d4).tr e4).tr q4) (((w2.tr d3).tr e3).tr w4) (by omega) (fun h => absurd h (by decide)) hs
        · rw [if_neg h16] at hs
          rw [if_neg h16, s_X9_signOf, e_cl, b26', y_so_t (by have : lx_tk B n (ps B n k) = Tk B n k := rfl; omega)]
          by_cases hop : y_op (Tk B n k)
          · rw [if_pos hop] at hs
            rw [if_pos hop]
            have hcm : t_cm (Tk B n k) = Tk B n k + 5 := by unfold y_op at hop; unfold t_cm; rw [if_neg (by omega), if_neg (by omega)]
            have htl := Tk_lt B n k
            rw [if_neg (fun hc => by have h1 : ¬ nI (t_cm (Tk B n k)) < 0 := nI_pos (by omega); rw [hc] at h1; exact h1 (by decide))]
            obtain ⟨bf, bt⟩ := s_between fu hfu hru (U := (S, L, o)) m1 (by show S.length + L.length < 200; omega) hop
            have fin : ∀ (b : Bool) (σ2 : ow_S) (V : List Nat × List Nat × Nat), b = decide (Tk B n k < 8) → mc B n ru σ2 (Tk B n k :: V.1) V.2.1 V.2.2 → V.1.length + V.2.1.length = S.length + L.length → mw ru σ1 σ2 → mn σ1 σ2 → sy (Tk B n) n' (k + 1) true b (Tk B n k :: V.1, V.2.1, V.2.2) = some (k', res) → ∃ σ', (if (12 : Int32) < nI (t_cm (Tk B n k)) then L_X9_eRead_262 fu (L_X9_eRead_14 fu fn) 1 0 σ2 else L_X9_eRead_262 fu (L_X9_eRead_14 fu fn) 1 1 σ2) = some (if res.isSome = true then 1 else 0, σ') ∧ mw ru σ σ' ∧ σ'.1 56 24 = nI (ps B n (k' + 1)) ∧ σ'.1 56 25 = nI (lx_pl B n (ps B n k')) ∧ ∀ L', res = some L' → mc B n ru σ' [] L' 0 ∧ L'.length ≤ k' ∧ k' ≤ ps B n k' ∧ Tk B n k' ≠ 21 := by
              intro b σ2 V hb m2 l2 w2 q2 hs
              have e : (12 : Int32) < nI (t_cm (Tk B n k)) ↔ ¬ Tk B n k < 8 := (n_lt (a := 12) (by decide) (by omega)).trans (by omega)
              simp only [e, L_X9_eRead_262]
              by_cases h8 : Tk B n k < 8
              · rw [if_neg (fun h => h h8)]
                refine go true b _ _ _ σ2 1 (by omega) m2 q2 w2 (by simp only [List.length_cons]; omega) (fun _ => ?_) hs
                rw [hb, if_pos (by simp [h8])]
              · rw [if_pos h8]
                refine go true b _ _ _ σ2 0 (by unfold y_op at hop; omega) m2 q2 w2 (by simp only [List.length_cons]; omega) (fun _ => ?_) hs
                rw [hb, if_neg (by simp; omega)]
            by_cases h4 : y_rank (Tk B n k) = 4
            · rw [if_pos h4] at hs bt
              by_cases ht : y_top4 (y_u 5 (S, L, o)).1
              · rw [if_pos ht] at hs
                obtain ⟨σ2, p2, w2, q2⟩ := bf h4 ht
                rw [p2, e_cl, if_pos rfl]
                exact stop σ2 q2 w2 hs
              · rw [if_neg ht] at hs
                obtain ⟨σ2, p2, m2, l2, w2, q2⟩ := bt (fun h => ht h.2)
                rw [p2, e_cl, if_neg (by decide)]
                refine fin false σ2 _ ?_ m2 l2 w2 q2 hs
                have : ¬ Tk B n k < 8 := by
                  intro h8
                  unfold y_op at hop
                  rcases (show Tk B n k = 6 ∨ Tk B n k = 7 by omega) with h | h
                  · rw [h] at h4; exact absurd h4 (by decide)
                  · rw [h] at h4; exact absurd h4 (by decide)
                simp; omega
            · rw [if_neg h4] at hs bt
              obtain ⟨σ2, p2, m2, l2, w2, q2⟩ := bt (fun h => h4 h.1)
              rw [p2, e_cl, if_neg (by decide)]
              exact fin _ σ2 _ rfl m2 l2 w2 q2 hs
          · rw [if_neg hop] at hs
            rw [if_neg hop, if_pos rfl]
            exact stop σ1 (fun _ _ _ => rfl) (mw.rf ru _) hs
end
