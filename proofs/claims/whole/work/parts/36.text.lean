/-! the class's whole text -/
def pO (tk : Nat → Nat) (p k : Nat) (L : List Nat) (k2 : Nat) (cs : List Nat) : Prop :=
  tk k = 18 + p ∧ ∃ k', k2 = k' + 1 ∧ tk k' = 17 ∧ k + 1 < k' ∧ cs.length + (k + 1) ≤ k' ∧ (y_W cs ∧ k' ≤ 160) ∧ ∀ n, k' < n + (k + 1) → sy tk n (k + 1) true true ([], L, 0) = some (k', some (L ++ cs))
def pF (tk : Nat → Nat) (p k : Nat) (L : List Nat) (k' : Nat) : Prop :=
  (tk k ≠ 18 + p ∧ k' = k) ∨ (tk k = 18 + p ∧ (k + 1 ≤ k' ∧ k' ≤ 160) ∧ ∀ n, k' < n + (k + 1) → sy tk n (k + 1) true true ([], L, 0) = some (k', none))
def tO (tk : Nat → Nat) (c0 c1 c2 : List Nat) : Prop :=
  ∃ k1 k2 k3, pO tk 0 0 [] k1 c0 ∧ pO tk 1 k1 c0 k2 c1 ∧ pO tk 2 k2 (c0 ++ c1) k3 c2 ∧ tk k3 = 21
def tF (tk : Nat → Nat) (kf : Nat) : Prop :=
  pF tk 0 0 [] kf ∨ (∃ k1 c0, pO tk 0 0 [] k1 c0 ∧ (pF tk 1 k1 c0 kf ∨ ∃ k2 c1, pO tk 1 k1 c0 k2 c1 ∧ (pF tk 2 k2 (c0 ++ c1) kf ∨ ∃ c2, pO tk 2 k2 (c0 ++ c1) kf c2 ∧ tk kf ≠ 21)))
def tT (c0 c1 c2 : List Nat) (p : Nat) : List Nat := if p = 0 then c0 else if p = 1 then c1 else c2
theorem y_W.wf {cs : List Nat} (h : y_W cs) : t_wf cs := ⟨by have := h.1 0 []; rw [List.append_nil] at this; rw [this]; rfl, h.2⟩
section
variable {B : Nat → Nat} {n h : Nat}
theorem xq.keep {σ σ' : ow_S} {k : Nat} {L : List Nat} (q : xq B n h σ k L) (h7 : σ'.1 7 = σ.1 7) (h8 : σ'.1 8 = σ.1 8) (h2 : σ'.1 h 2 = σ.1 h 2) (h1 : σ'.1 (h + 1) = σ.1 (h + 1)) (e : σ'.2 = σ.2) : xq B n h σ' k L := by
  unfold xq x_by at q ⊢
  rw [h7, h8, h2, h1, e]; exact q
theorem xz.keep {σ σ' : ow_S} {k : Nat} (q : xz B n h σ k) (h7 : σ'.1 7 = σ.1 7) (h2 : σ'.1 h 2 = σ.1 h 2) (e : σ'.2 = σ.2) : xz B n h σ' k := by
  unfold xz at q ⊢
  rw [h7, h2, e]; exact q
/-- a part's frame -/
def xv (h p : Nat) (σ σ' : ow_S) : Prop := (∀ c z, c ≠ h + 1 → ¬(c = h + 2 ∧ z = p) → ¬(c = h ∧ (z = 2 ∨ z = 3)) → ¬(c = 7 ∧ 2 ≤ z ∧ z ≤ 5) → σ'.1 c z = σ.1 c z) ∧ σ'.2 = σ.2
theorem s_endPart (fu : Nat) {σ : ow_S} {p : Nat} (hp : p < 3) (h3 : σ.1 h 3 = nI p) : f_X6_endPart fu h σ = some (ow_sI (ow_sI σ (h + 2) p (σ.1 h 2)) h 3 (nI (p + 1))) := by
  rw [f_X6_endPart, h3, if_neg (by rw [show (3 : Int32) = nI 3 from rfl, n_le (by omega) (by omega)]; omega), e_ckn _ (by omega) hp, n_cl (a := p) (by omega), e_let, g_k _ _ (show h ≠ h + 2 by omega), h3, show (1 : Int32) = nI 1 from rfl, n_add, e_let]
theorem s_endPart_fr (hh : 30 ≤ h) {σ : ow_S} {p : Nat} (v w : Int32) : (ow_sI (ow_sI σ (h + 2) p v) h 3 w).1 7 = σ.1 7 ∧ (ow_sI (ow_sI σ (h + 2) p v) h 3 w).1 8 = σ.1 8 ∧ (ow_sI (ow_sI σ (h + 2) p v) h 3 w).1 h 2 = σ.1 h 2 ∧ (ow_sI (ow_sI σ (h + 2) p v) h 3 w).1 (h + 1) = σ.1 (h + 1) ∧ (ow_sI (ow_sI σ (h + 2) p v) h 3 w).1 h 3 = w ∧ (ow_sI (ow_sI σ (h + 2) p v) h 3 w).1 (h + 2) p = v ∧ xv h p σ (ow_sI (ow_sI σ (h + 2) p v) h 3 w) := by
  refine ⟨?_, ?_, ?_, ?_, g_same _ _ _ _, ?_, ⟨fun c z h1 h2 h3 h4 => ?_, rfl⟩⟩
  · rw [g_k _ _ (show 7 ≠ h by omega), g_k _ _ (show 7 ≠ h + 2 by omega)]
  · rw [g_k _ _ (show 8 ≠ h by omega), g_k _ _ (show 8 ≠ h + 2 by omega)]
  · rw [g_j _ _ (show 2 ≠ 3 by decide), g_k _ _ (show h ≠ h + 2 by omega)]
  · rw [g_k _ _ (show h + 1 ≠ h by omega), g_k _ _ (show h + 1 ≠ h + 2 by omega)]
  · rw [g_k _ _ (show h + 2 ≠ h by omega), g_same]
  · rw [g_if]
    by_cases e : c = h
    · subst e; rw [if_pos rfl, if_neg (by omega), g_k _ _ (show c ≠ c + 2 by omega)]
    · rw [if_neg e, g_if]
      by_cases e2 : c = h + 2
      · subst e2; rw [if_pos rfl, if_neg (by omega)]
      · rw [if_neg e2]
theorem xw.v {σ σ' : ow_S} (p : Nat) (w : xw h σ σ') : xv h p σ σ' := ⟨fun c z h1 _ h3 h4 => w.1 c z h1 (by omega) h4, w.2⟩
theorem xv.tr {p : Nat} {a b c : ow_S} (q : xv h p a b) (r : xv h p b c) : xv h p a c := ⟨fun k z h1 h2 h3 h4 => (r.1 k z h1 h2 h3 h4).trans (q.1 k z h1 h2 h3 h4), r.2.trans q.2⟩
theorem s_readPart (fu : Nat) (hfu : 1000 ≤ fu) (hh : 30 ≤ h) (hn : n ≤ 160) {p : Nat} (hp : p < 3) : (∀ σ k L, xq B n h σ k L → σ.1 h 3 = nI p → ∃ σ', f_X3_readPart fu (nI (18 + p)) σ = some σ' ∧ xv h p σ σ' ∧ σ'.1 h 3 = nI (p + 1) ∧ ((∃ k2 cs, pO (Tk B n) p k L k2 cs ∧ xq B n h σ' k2 (L ++ cs) ∧ σ'.1 (h + 2) p = nI (L ++ cs).length) ∨ (∃ k', pF (Tk B n) p k L k' ∧ xz B n h σ' k'))) ∧ (∀ σ k, xz B n h σ k → σ.1 h 3 = nI p → ∃ σ', f_X3_readPart fu (nI (18 + p)) σ = some σ' ∧ xv h p σ σ' ∧ σ'.1 h 3 = nI (p + 1) ∧ xz B n h σ' k) := by
  have hG := s_X3_G (B := B) fu hfu hh hn 40 0 0 (by decide) (by decide) (by decide)
  have fin : ∀ σ σ3 : ow_S, ∀ k, xw h σ σ3 → xz B n h σ3 k → σ.1 h 3 = nI p → ∃ σ', (ow_op (σ3.2.2 7 6) (some σ3) fun t20 => ow_cv (f_X6_endPart fu t20 σ3) fun σ_27 => some σ_27) = some σ' ∧ xv h p σ σ' ∧ σ'.1 h 3 = nI (p + 1) ∧ xz B n h σ' k := by
    intro σ σ3 k w z h3
    have h3' : σ3.1 h 3 = nI p := (w.1 h 3 (by omega) (by omega) (by omega)).trans h3
    obtain ⟨f7, f8, f2, f1, f3, fe, fv⟩ := s_endPart_fr hh (σ := σ3) (p := p) (σ3.1 h 2) (nI (p + 1))
    refine ⟨_, ?_, (w.v p).tr fv, f3, z.keep f7 f2 rfl⟩
    rw [z.2.2.1]
    show ow_cv (f_X6_endPart fu h σ3) _ = _
    rw [s_endPart fu hp h3', e_cv]
  have bad : ∀ σ σ1 : ow_S, ∀ k, xw h σ σ1 → xz B n h σ1 k → σ.1 h 3 = nI p → ∃ σ', (ow_cv (f_X3_G fu 40 0 (0 : Int32) σ1) <| fun σ_7 => ow_cv (f_X3_expect fu (17 : Int32) σ_7) <| fun σ_13 => ow_op (σ_13.2.2 7 6) (some σ_13) <| fun t20 => ow_cv (f_X6_endPart fu t20 σ_13) <| fun σ_27 => some σ_27) = some σ' ∧ xv h p σ σ' ∧ σ'.1 h 3 = nI (p + 1) ∧ xz B n h σ' k := by
    intro σ σ1 k w z h3
    obtain ⟨σ2, p2, w2, z2⟩ := hG.2 σ1 k z
    obtain ⟨σ3, p3, z3, w3⟩ := s_expectz fu hh hn z2 (c := 17) (by decide)
    rw [show (0 : Int32) = nI 0 from rfl, p2, e_cv, show (17 : Int32) = nI 17 from rfl, p3, e_cv]
    exact fin σ σ3 k ((w.tr w2).tr w3) z3 h3
  constructor
  · intro σ k L q h3
    obtain ⟨σ1, p1, w1, c⟩ := s_expect fu hfu hh q (c := 18 + p) (by omega)
    rw [f_X3_readPart, p1, e_cv]
    rcases c with ⟨ht, q1⟩ | ⟨ht, z1⟩
    · obtain ⟨σ2, p2, w2, R⟩ := hG.1 σ1 (k + 1) L q1
      rcases R with ⟨k', cs, r, q2⟩ | ⟨k', r, z2⟩
      · obtain ⟨σ3, p3, w3, c⟩ := s_expect fu hfu hh q2 (c := 17) (by decide)
        rw [show (0 : Int32) = nI 0 from rfl, p2, e_cv, show (17 : Int32) = nI 17 from rfl, p3, e_cv]
        have w := (w1.tr w2).tr w3
        rcases c with ⟨h17, q3⟩ | ⟨h17, z3⟩
        · have h3' : σ3.1 h 3 = nI p := (w.1 h 3 (by omega) (by omega) (by omega)).trans h3
          obtain ⟨f7, f8, f2, f1, f3, fe, fv⟩ := s_endPart_fr hh (σ := σ3) (p := p) (σ3.1 h 2) (nI (p + 1))
          refine ⟨_, ?_, (w.v p).tr fv, f3, Or.inl ⟨k' + 1, cs, ⟨ht, k', rfl, h17, r.1, r.2.1, ⟨r.2.2.1, by have := q2.2.2.2.2.2.2.1; have := ps_le B n k'; omega⟩, fun n hn => ?_⟩, q3.keep f7 f8 f2 f1 rfl, ?_⟩⟩
          · rw [q3.2.1]
            show ow_cv (f_X6_endPart fu h σ3) _ = _
            rw [s_endPart fu hp h3', e_cv]
          · rw [y_P r hn, if_pos h17]
          · rw [fe]; exact q3.2.2.2.2.2.2.2.2.1
        · obtain ⟨σ4, p4, w4, c4, z4⟩ := fin σ σ3 k' w z3 h3
          exact ⟨σ4, p4, w4, c4, Or.inr ⟨k', Or.inr ⟨ht, ⟨by have := r.1; omega, z4.2.2.2.2.2⟩, fun n hn => by rw [y_P r hn, if_neg h17]⟩, z4⟩⟩
      · obtain ⟨σ3, p3, z3, w3⟩ := s_expectz fu hh hn z2 (c := 17) (by decide)
        rw [show (0 : Int32) = nI 0 from rfl, p2, e_cv, show (17 : Int32) = nI 17 from rfl, p3, e_cv]
        obtain ⟨σ4, p4, w4, c4, z4⟩ := fin σ σ3 k' ((w1.tr w2).tr w3) z3 h3
        exact ⟨σ4, p4, w4, c4, Or.inr ⟨k', Or.inr ⟨ht, ⟨r.1, z4.2.2.2.2.2⟩, fun n hn => y_Pf r hn⟩, z4⟩⟩
    · obtain ⟨σ4, p4, w4, c4, z4⟩ := bad σ σ1 k w1 z1 h3
      exact ⟨σ4, p4, w4, c4, Or.inr ⟨k, Or.inl ⟨ht, rfl⟩, z4⟩⟩
  · intro σ k z h3
    obtain ⟨σ1, p1, z1, w1⟩ := s_expectz fu hh hn z (c := 18 + p) (by omega)
    rw [f_X3_readPart, p1, e_cv]
    exact bad σ σ1 k w1 z1 h3
/-- a text's frame -/
def xi (h : Nat) (σ σ' : ow_S) : Prop := (∀ c z, c ≠ h → c ≠ h + 1 → c ≠ h + 2 → ¬(c = 7 ∧ 1 ≤ z ∧ z ≤ 5) → σ'.1 c z = σ.1 c z) ∧ σ'.2.1 = σ.2.1 ∧ ∀ c z, ¬(c = 7 ∧ z = 6) → σ'.2.2 c z = σ.2.2 c z
theorem xi.rf (h : Nat) (σ : ow_S) : xi h σ σ := ⟨fun _ _ _ _ _ _ => rfl, rfl, fun _ _ _ => rfl⟩
theorem xi.tr {a b c : ow_S} (q : xi h a b) (r : xi h b c) : xi h a c := ⟨fun k z h1 h2 h3 h4 => (r.1 k z h1 h2 h3 h4).trans (q.1 k z h1 h2 h3 h4), r.2.1.trans q.2.1, fun k z h1 => (r.2.2 k z h1).trans (q.2.2 k z h1)⟩
theorem xv.i {p : Nat} {σ σ' : ow_S} (w : xv h p σ σ') : xi h σ σ' := ⟨fun c z h1 h2 h3 h4 => w.1 c z h2 (by omega) (by omega) (by omega), by rw [w.2], fun c z _ => by rw [w.2]⟩
theorem xi.w7 (σ : ow_S) {j : Nat} (hj : 1 ≤ j ∧ j ≤ 5) (v : Int32) : xi h σ (ow_sI σ 7 j v) := ⟨fun c z _ _ _ h4 => by
  rw [g_if]
  by_cases e : c = 7
  · rw [if_pos e, if_neg (by omega), e]
  · rw [if_neg e], rfl, fun _ _ _ => rfl⟩
theorem xi.wh (σ : ow_S) (j : Nat) (v : Int32) : xi h σ (ow_sI σ h j v) := ⟨fun c z h1 _ _ _ => by rw [g_k _ _ h1], rfl, fun _ _ _ => rfl⟩
theorem s_atEnd (fu : Nat) (hh : 30 ≤ h) {σ : ow_S} {k : Nat} {L : List Nat} (q : xq B n h σ k L) : (Tk B n k = 21 ∧ f_X3_expectAtEnd fu σ = some σ) ∨ (Tk B n k ≠ 21 ∧ ∃ σ', f_X3_expectAtEnd fu σ = some σ' ∧ xw h σ σ' ∧ xz B n h σ' k) := by
  have e := n_eq (a := Tk B n k) (b := 21) (by have := Tk_lt B n k; omega) (by omega)
  rw [f_X3_expectAtEnd, q.2.2.2.2.1, show (21 : Int32) = nI 21 from rfl]
  simp only [e]
  by_cases c : Tk B n k = 21
  · rw [if_pos c]; exact Or.inl ⟨c, rfl⟩
  · rw [if_neg c]
    obtain ⟨σ', a, b, w⟩ := s_refuse fu hh q
    exact Or.inr ⟨c, σ', by rw [a, e_cv], w, b⟩
theorem s_atEndz (fu : Nat) (hh : 30 ≤ h) (hn : n ≤ 160) {σ : ow_S} {k : Nat} (q : xz B n h σ k) : ∃ σ', f_X3_expectAtEnd fu σ = some σ' ∧ xw h σ σ' ∧ xz B n h σ' k := by
  rw [f_X3_expectAtEnd, q.1, if_neg (by decide)]
  obtain ⟨σ', a, b, w⟩ := s_refusez fu hh hn q
  exact ⟨σ', by rw [a, e_cv], w, b⟩
theorem s_X3_readInto (fu : Nat) (hfu : 1000 ≤ fu) (hh : 30 ≤ h) {σ : ow_S} (hb : x_by σ B n) : ∃ r σ', f_X3_readInto fu h σ = some (r, σ') ∧ xi h σ σ' ∧ σ'.1 7 1 = 0 ∧ ((∃ c0 c1 c2, tO (Tk B n) c0 c1 c2 ∧ r = -1 ∧ x_text σ'.1 h (tT c0 c1 c2)) ∨ (∃ kf, tF (Tk B n) kf ∧ r = nI (lx_pl B n (ps B n kf)))) := by
  have hn := hb.2.1
  have hS : ∃ σ0, f_X6_clear fu h σ = some σ0 ∧ σ0 = ow_sI (ow_sI σ h 2 0) h 3 0 := ⟨_, by rw [f_X6_clear, e_let, e_let], rfl⟩
  obtain ⟨σ0, p0, d0⟩ := hS
  have wA : xi h σ (ow_sI (ow_sI (ow_sR σ0 7 6 (some h)) 7 2 0) 7 5 (-1)) := by
    refine ((((xi.wh σ 2 0).tr (xi.wh _ 3 0)).tr (b := ow_sI (ow_sI σ h 2 0) h 3 0) (c := ow_sR σ0 7 6 (some h)) ?_).tr (xi.w7 _ (by omega) _)).tr (xi.w7 _ (by omega) _)
    subst d0
    refine ⟨fun c z _ _ _ _ => rfl, rfl, fun c z hcz => ?_⟩
    by_cases e : c = 7
    · subst e
      have hz : z ≠ 6 := fun e => hcz ⟨rfl, e⟩
      simp [ow_sR, va_up, hz, ow_sI]
    · rw [gR_n _ _ e]
  have bA : x_by (ow_sI (ow_sI (ow_sR σ0 7 6 (some h)) 7 2 0) 7 5 (-1)) B n := by
    refine ⟨?_, hn, fun i hi => (wA.1 8 i (by omega) (by omega) (by omega) (by omega)).trans (hb.2.2.1 i hi), hb.2.2.2⟩
    rw [g_7s, if_neg (by decide), g_7s, if_neg (by decide)]
    show σ0.1 7 1 = nI n
    rw [d0, g_k _ _ (show 7 ≠ h by omega), g_k _ _ (show 7 ≠ h by omega)]; exact hb.1
  have k2 : (ow_sI (ow_sI (ow_sR σ0 7 6 (some h)) 7 2 0) 7 5 (-1)).1 7 2 = nI (ps B n 0) := by
    rw [g_7s, if_neg (by decide), g_7s, if_pos rfl]; rfl
  have k5 : (ow_sI (ow_sI (ow_sR σ0 7 6 (some h)) 7 2 0) 7 5 (-1)).1 7 5 = -1 := by
    rw [g_7s, if_pos rfl]
  have k6 : (ow_sI (ow_sI (ow_sR σ0 7 6 (some h)) 7 2 0) 7 5 (-1)).2.2 7 6 = some h := by
    show (ow_sR σ0 7 6 (some h)).2.2 7 6 = some h
    simp [ow_sR, va_up, upd]
  have kh2 : (ow_sI (ow_sI (ow_sR σ0 7 6 (some h)) 7 2 0) 7 5 (-1)).1 h 2 = nI 0 := by
    rw [g_k _ _ (show h ≠ 7 by omega), g_k _ _ (show h ≠ 7 by omega)]
    show σ0.1 h 2 = nI 0
    rw [d0, g_j _ _ (show 2 ≠ 3 by decide), g_same]; rfl
  have kh3 : (ow_sI (ow_sI (ow_sR σ0 7 6 (some h)) 7 2 0) 7 5 (-1)).1 h 3 = nI 0 := by
    rw [g_k _ _ (show h ≠ 7 by omega), g_k _ _ (show h ≠ 7 by omega)]
    show σ0.1 h 3 = nI 0
    rw [d0, g_same]; rfl
  rw [f_X3_readInto, p0, e_cv, e_let, e_let, e_let]
  revert wA bA k2 k5 k6 kh2 kh3
  generalize ow_sI (ow_sI (ow_sR σ0 7 6 (some h)) 7 2 0) 7 5 (-1) = τ
  intro wA bA k2 k5 k6 kh2 kh3
  obtain ⟨σ1, p1, a2, a3, a4, w1⟩ := s_X3_advance fu hfu bA (ps_le B n 0) k2
  have q1 : xq B n h σ1 0 [] := ⟨bA.fr w1, by rw [w1.2]; exact k6, (w1.1 7 5 (by omega)).trans k5, a2, a3, a4, Nat.zero_le _, Nat.zero_le _, (w1.1 h 2 (by omega)).trans kh2, fun j hj => by simp at hj⟩
  have h31 : σ1.1 h 3 = nI 0 := (w1.1 h 3 (by omega)).trans kh3
  have w1' : xi h σ σ1 := wA.tr ((xw.of (h := h) w1).v 0).i
  rw [p1, e_cv]
  have S := fun (p : Nat) (hp : p < 3) => s_readPart (B := B) (h := h) fu hfu hh hn hp
  have fin : ∀ (σ5 : ow_S) (kf : Nat), xi h σ σ5 → xz B n h σ5 kf → tF (Tk B n) kf → ∃ r σ', (ow_cv (f_X3_expectAtEnd fu σ5) <| fun σ_42 => ow_let (ow_sI σ_42 7 1 (0 : Int32)) <| fun σ_47 => some ((σ_47.1 7 5), σ_47)) = some (r, σ') ∧ xi h σ σ' ∧ σ'.1 7 1 = 0 ∧ ((∃ c0 c1 c2, tO (Tk B n) c0 c1 c2 ∧ r = -1 ∧ x_text σ'.1 h (tT c0 c1 c2)) ∨ (∃ kf, tF (Tk B n) kf ∧ r = nI (lx_pl B n (ps B n kf)))) := by
    intro σ5 kf w z t
    obtain ⟨σ6, p6, w6, z6⟩ := s_atEndz fu hh hn z
    rw [p6, e_cv, e_let]
    exact ⟨_, _, rfl, (w.tr (w6.v 0).i).tr (xi.w7 _ (by omega) _), g_same _ _ _ _, Or.inr ⟨kf, t, by rw [g_7s, if_neg (by decide), z6.2.1]⟩⟩
  obtain ⟨σ2, p2, v2, h32, R⟩ := (S 0 (by decide)).1 σ1 0 [] q1 h31
  rw [show (18 : Int32) = nI (18 + 0) from rfl, p2, e_cv, show (19 : Int32) = nI (18 + 1) from rfl, show (20 : Int32) = nI (18 + 2) from rfl]
  rcases R with ⟨k1, c0, o0, q2, l0⟩ | ⟨kf, f0, z2⟩
  · obtain ⟨σ3, p3, v3, h33, R⟩ := (S 1 (by decide)).1 σ2 k1 ([] ++ c0) q2 h32
    rw [p3, e_cv]
    rcases R with ⟨k2', c1, o1, q3, l1⟩ | ⟨kf, f1, z3⟩
    · obtain ⟨σ4, p4, v4, h34, R⟩ := (S 2 (by decide)).1 σ3 k2' ([] ++ c0 ++ c1) q3 h33
      rw [p4, e_cv]
      rcases R with ⟨k3, c2, o2, q4, l2⟩ | ⟨kf, f2, z4⟩
      · rcases s_atEnd fu hh q4 with ⟨he, p5⟩ | ⟨he, σ5, p5, w5, z5⟩
        · rw [p5, e_cv, e_let]
          have a8 := q4.2.2.2.2.2.2.2.1
          have a7 := q4.2.2.2.2.2.2.1
          have hps := ps_le B n k3
          have e4 : (ow_sI σ4 7 1 0).1 h = σ4.1 h := g_k _ _ (show h ≠ 7 by omega)
          have e5 : (ow_sI σ4 7 1 0).1 (h + 1) = σ4.1 (h + 1) := g_k _ _ (show h + 1 ≠ 7 by omega)
          have e6 : (ow_sI σ4 7 1 0).1 (h + 2) = σ4.1 (h + 2) := g_k _ _ (show h + 2 ≠ 7 by omega)
          simp only [List.length_append, List.nil_append] at a8 l0 l1 l2 q4 o1 o2
          have off : t_off (tT c0 c1 c2) 1 = c0.length ∧ t_off (tT c0 c1 c2) 2 = c0.length + c1.length ∧ t_off (tT c0 c1 c2) 3 = c0.length + c1.length + c2.length := by
            refine ⟨?_, ?_, ?_⟩ <;> simp [t_off, tT]
          refine ⟨_, _, rfl, ((w1'.tr v2.i).tr v3.i).tr (v4.i.tr (xi.w7 _ (by omega) _)), g_same _ _ _ _, Or.inl ⟨c0, c1, c2, ⟨k1, k2', k3, o0, o1, o2, he⟩, ?_, ⟨?_, ?_, ?_, ?_⟩⟩⟩
          · rw [g_7s, if_neg (by decide)]; exact q4.2.2.1
          · rw [e4]; exact h34
          · rw [off.2.2]; omega
          · intro p hp
            rw [e6]
            rcases (show p = 0 ∨ p = 1 ∨ p = 2 by omega) with rfl | rfl | rfl
            · refine ⟨?_, o0.2.choose_spec.2.2.2.2.1.1.wf⟩
              rw [v4.1 (h + 2) 0 (by omega) (by omega) (by omega) (by omega), v3.1 (h + 2) 0 (by omega) (by omega) (by omega) (by omega), l0, off.1]
            · refine ⟨?_, o1.2.choose_spec.2.2.2.2.1.1.wf⟩
              rw [v4.1 (h + 2) 1 (by omega) (by omega) (by omega) (by omega), l1, off.2.1]
            · refine ⟨?_, o2.2.choose_spec.2.2.2.2.1.1.wf⟩
              rw [l2, off.2.2]
          · intro p j hp hj
            rw [e5]
            have a10 := q4.2.2.2.2.2.2.2.2.2
            simp only [List.length_append] at a10
            rcases (show p = 0 ∨ p = 1 ∨ p = 2 by omega) with rfl | rfl | rfl
            · have hj' : j < c0.length := hj
              rw [show t_off (tT c0 c1 c2) 0 + j = j by simp [t_off], a10 j (by omega)]
              congr 1
              show (c0 ++ c1 ++ c2).getD j 0 = c0.getD j 0
              rw [List.getD_eq_getElem?_getD, List.getElem?_append_left (by simp; omega), List.getElem?_append_left (by omega), ← List.getD_eq_getElem?_getD]
            · have hj' : j < c1.length := hj
              rw [off.1, a10 (c0.length + j) (by omega)]
              congr 1
              show (c0 ++ c1 ++ c2).getD (c0.length + j) 0 = c1.getD j 0
              rw [List.getD_eq_getElem?_getD, List.getElem?_append_left (by simp; omega), List.getElem?_append_right (by omega), ← List.getD_eq_getElem?_getD, Nat.add_sub_cancel_left]
            · have hj' : j < c2.length := hj
              rw [off.2.1, a10 (c0.length + c1.length + j) (by omega)]
              congr 1
              show (c0 ++ c1 ++ c2).getD (c0.length + c1.length + j) 0 = c2.getD j 0
              rw [List.getD_eq_getElem?_getD, List.getElem?_append_right (by simp), ← List.getD_eq_getElem?_getD]
              congr 1
              simp
        · rw [p5, e_cv, e_let]
          refine ⟨_, _, rfl, ((w1'.tr v2.i).tr v3.i).tr ((v4.i.tr (w5.v 0).i).tr (xi.w7 _ (by omega) _)), g_same _ _ _ _, Or.inr ⟨k3, Or.inr ⟨k1, c0, o0, Or.inr ⟨k2', c1, by simpa using o1, Or.inr ⟨c2, by simpa using o2, he⟩⟩⟩, by rw [g_7s, if_neg (by decide), z5.2.1]⟩⟩
      · exact fin σ4 kf ((w1'.tr v2.i).tr (v3.i.tr v4.i)) z4 (Or.inr ⟨k1, c0, o0, Or.inr ⟨k2', c1, by simpa using o1, Or.inl (by simpa using f2)⟩⟩)
    · obtain ⟨σ4, p4, v4, h34, z4⟩ := (S 2 (by decide)).2 σ3 kf z3 h33
      rw [p4, e_cv]
      exact fin σ4 kf ((w1'.tr v2.i).tr (v3.i.tr v4.i)) z4 (Or.inr ⟨k1, c0, o0, Or.inl (by simpa using f1)⟩)
  · obtain ⟨σ3, p3, v3, h33, z3⟩ := (S 1 (by decide)).2 σ2 kf z2 h32
    obtain ⟨σ4, p4, v4, h34, z4⟩ := (S 2 (by decide)).2 σ3 kf z3 h33
    rw [p3, e_cv, p4, e_cv]
    exact fin σ4 kf ((w1'.tr v2.i).tr (v3.i.tr v4.i)) z4 (Or.inl f0)
end
