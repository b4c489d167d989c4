/-! the model's whole text -/
def mb (B : Nat → Nat) (n ru : Nat) (σ : ow_S) (L : List Nat) : Prop :=
  m_by σ B n ∧ m_tab σ ∧ σ.1 56 11 = nI ru ∧ σ.1 56 32 = nI L.length ∧ ∀ j, j < L.length → σ.1 62 (200 * ru + j) = nI (t_cm (L.getD j 0))
def mx (ru : Nat) (σ σ' : ow_S) : Prop := (∀ c z, ¬(c = 56 ∧ (z = 8 ∨ z = 11 ∨ (24 ≤ z ∧ z ≤ 27) ∨ z = 30 ∨ z = 31 ∨ z = 32)) → ¬(c = 62 ∧ 200 * ru ≤ z ∧ z < 200 * ru + 200) → ¬(c = 63 ∧ 4 * ru ≤ z ∧ z < 4 * ru + 4) → c ≠ 71 → σ'.1 c z = σ.1 c z) ∧ σ'.2 = σ.2
theorem mx.rf (ru : Nat) (σ : ow_S) : mx ru σ σ := ⟨fun _ _ _ _ _ _ => rfl, rfl⟩
theorem mx.tr {ru : Nat} {a b c : ow_S} (p : mx ru a b) (q : mx ru b c) : mx ru a c := ⟨fun k z h1 h2 h3 h4 => (q.1 k z h1 h2 h3 h4).trans (p.1 k z h1 h2 h3 h4), q.2.trans p.2⟩
theorem mw.x {ru : Nat} {a b : ow_S} (p : mw ru a b) : mx ru a b := ⟨fun c z h1 h2 _ h4 => p.1 c z (by omega) h2 h4, p.2⟩
theorem mx.f (ru : Nat) (σ : ow_S) {j : Nat} (hj : j = 8 ∨ j = 11 ∨ (24 ≤ j ∧ j ≤ 27) ∨ j = 30 ∨ j = 31 ∨ j = 32) (v : Int32) : mx ru σ (ow_sI σ 56 j v) := ⟨fun c z h1 _ _ _ => by
  rw [g_if]
  by_cases e : c = 56
  · rw [if_pos e, if_neg (by omega), e]
  · rw [if_neg e], rfl⟩
theorem mx.p {ru : Nat} (σ : ow_S) {j : Nat} (hj : 4 * ru ≤ j ∧ j < 4 * ru + 4) (v : Int32) : mx ru σ (ow_sI σ 63 j v) := ⟨fun c z _ _ h3 _ => by
  rw [g_if]
  by_cases e : c = 63
  · rw [if_pos e, if_neg (by omega), e]
  · rw [if_neg e], rfl⟩
/-- frame of a part -/
def mp (ru p : Nat) (σ σ' : ow_S) : Prop := mx ru σ σ' ∧ ∀ z, z ≠ 4 * ru + p → σ'.1 63 z = σ.1 63 z
section
variable {B : Nat → Nat} {n ru : Nat}
theorem mb.of {σ : ow_S} {L : List Nat} (h : mc B n ru σ [] L 0) : mb B n ru σ L := ⟨h.1, h.2.1, h.2.2.1, h.2.2.2.1, h.2.2.2.2.1⟩
theorem mb.to {σ : ow_S} {L : List Nat} (h : mb B n ru σ L) : mc B n ru (ow_sI (ow_sI σ 56 30 0) 56 31 0) [] L 0 := by
  obtain ⟨a1, a2, a3, a4, a5⟩ := h
  obtain ⟨d1, d2, d3, d4⟩ := m_keep (ru := ru) (σ := σ) (j := 30) (v := 0) (by omega) a1 a2
  obtain ⟨e1, e2, e3, e4⟩ := m_keep (ru := ru) (σ := ow_sI σ 56 30 0) (j := 31) (v := 0) (by omega) d1 d2
  refine ⟨e1, e2, ?_, ?_, ?_, ?_, trivial, g_same _ _ _ _, fun c hc => by simp at hc, rfl⟩
  · rw [g_56s, if_neg (by decide), g_56s, if_neg (by decide)]; exact a3
  · rw [g_56s, if_neg (by decide), g_56s, if_neg (by decide)]; exact a4
  · intro j hj
    rw [g_k _ _ (show 62 ≠ 56 by decide), g_k _ _ (show 62 ≠ 56 by decide)]; exact a5 j hj
  · rw [g_56s, if_neg (by decide), g_56s, if_pos rfl]; rfl
theorem mb.fr {σ σ' : ow_S} {L : List Nat} (h : mb B n ru σ L) (w : m_lfr σ σ') : mb B n ru σ' L :=
  ⟨h.1.fr w, h.2.1.fr w, (w.1 56 11 (by omega)).trans h.2.2.1, (w.1 56 32 (by omega)).trans h.2.2.2.1, fun j hj => (w.1 62 _ (by omega)).trans (h.2.2.2.2 j hj)⟩
theorem mb.p {σ : ow_S} {L : List Nat} (h : mb B n ru σ L) (j : Nat) (v : Int32) : mb B n ru (ow_sI σ 63 j v) L := by
  obtain ⟨a1, a2, a3, a4, a5⟩ := h
  refine ⟨⟨by rw [g_k _ _ (show 56 ≠ 63 by decide)]; exact a1.1, a1.2.1, fun i hi => by rw [g_k _ _ (show 61 ≠ 63 by decide)]; exact a1.2.2.1 i hi, a1.2.2.2⟩, fun i z h1 h2 => by rw [g_k _ _ (show 70 ≠ 63 by decide)]; exact a2 i z h1 h2, ?_, ?_, fun j hj => ?_⟩
  · rw [g_k _ _ (show 56 ≠ 63 by decide)]; exact a3
  · rw [g_k _ _ (show 56 ≠ 63 by decide)]; exact a4
  · rw [g_k _ _ (show 62 ≠ 63 by decide)]; exact a5 j hj
theorem s_m_part (fu : Nat) (hfu : 1000 ≤ fu) (hru : ru < 6) {p : Nat} (hp : p < 3) {σ : ow_S} {k : Nat} {L : List Nat} (hm : mb B n ru σ L) (h24 : σ.1 56 24 = nI (ps B n k)) (hk : k ≤ ps B n k) (hl : L.length ≤ k) (fn : Nat) : (∀ k2 cs, pO (Tk B n) p k L k2 cs → ∃ σ', L_X9_text_26 fu (fn + 1) 1 (nI p) σ = L_X9_text_26 fu fn 1 (nI (p + 1)) σ' ∧ mp ru p σ σ' ∧ mb B n ru σ' (L ++ cs) ∧ σ'.1 56 24 = nI (ps B n k2) ∧ k2 ≤ ps B n k2 ∧ (L ++ cs).length ≤ k2 ∧ σ'.1 63 (4 * ru + p) = nI L.length) ∧ (∀ kf, pF (Tk B n) p k L kf → ∃ σ', L_X9_text_26 fu (fn + 1) 1 (nI p) σ = L_X9_text_26 fu fn 0 (nI (p + 1)) σ' ∧ mx ru σ σ' ∧ σ'.1 56 25 = nI (lx_pl B n (ps B n kf)) ∧ σ'.1 56 11 = nI ru) := by
  have hps := ps_le B n k
  have hn := hm.1.2.1
  have htk := lx_tk_ok B n (ps B n k)
  obtain ⟨c17, c16, c1, c2, c6, c12, c15, c3, c0⟩ := y_t_c (t := Tk B n k) (by have : lx_tk B n (ps B n k) = Tk B n k := rfl; omega)
  obtain ⟨σ1, p1, b24, b25, b26, b27, w1⟩ := s_X9_next fu hfu hm.1 hm.2.1 hps h24
  have b26' : σ1.1 56 26 = y_t (Tk B n k) := b26
  have b24' : σ1.1 56 24 = nI (ps B n (k + 1)) := b24
  have b27' : y_v (Tk B n k) (σ1.1 56 27) := b27
  have m1 := hm.fr w1
  have m2 := m1.p (4 * ru + p) (nI L.length)
  have w2 : mx ru σ1 (ow_sI σ1 63 (4 * ru + p) (nI L.length)) := mx.p _ (by omega) _
  have f2 : ∀ z, z ≠ 4 * ru + p → (ow_sI σ1 63 (4 * ru + p) (nI L.length)).1 63 z = σ.1 63 z := by
    intro z hz
    rw [g_j _ _ hz]; exact w1.1 63 z (by omega)
  have e3 : (3 : Int32) ≤ nI p ↔ 3 ≤ p := n_le (a := 3) (by decide) (by omega)
  have h60 : ∀ s0 : Int32, L_X9_text_60 fu (L_X9_text_26 fu fn) (nI p) s0 σ1 = if s0 = 0 then L_X9_text_26 fu fn 0 (nI (p + 1)) (ow_sI σ1 63 (4 * ru + p) (nI L.length)) else (ow_cl (f_X9_eRead fu (ow_sI σ1 63 (4 * ru + p) (nI L.length))) <| fun r_83 σ_83 => if r_83 = 0 then L_X9_text_26 fu fn 0 (nI (p + 1)) σ_83 else L_X9_text_26 fu fn 1 (nI (p + 1)) σ_83) := by
    intro s0
    simp only [L_X9_text_60, L_X9_text_93, L_X9_text_94, e_let]
    rw [m1.2.2.1, m1.2.2.2.1, show (4 : Int32) = nI 4 from rfl, n_mul, n_add, e_ckn _ (by omega) (by omega), n_cl (a := 4 * ru + p) (by omega), show (1 : Int32) = nI 1 from rfl, n_add]
  have hsel : L_X9_text_26 fu (fn + 1) 1 (nI p) σ = L_X9_text_60 fu (L_X9_text_26 fu fn) (nI p) (if Tk B n k = 18 + p then 1 else 0) σ1 := by
    rw [L_X9_text_26]
    simp only [e3]
    rw [if_neg (by omega), if_neg (by decide), p1, e_cv, b26']
    simp only [c3]
    by_cases c : Tk B n k = 18 + p
    · rw [if_pos c, if_pos (by omega), if_pos (by
        obtain ⟨v1, v2, v3, v4, v5⟩ := b27'
        rcases (show p = 0 ∨ p = 1 ∨ p = 2 by omega) with rfl | rfl | rfl
        · exact v2 c
        · exact v3 c
        · exact v4 c)]
    · rw [if_neg c]
      by_cases c2 : Tk B n k = 18 ∨ Tk B n k = 19 ∨ Tk B n k = 20
      · rw [if_pos c2, if_neg (fun hh => by
          obtain ⟨v1, v2, v3, v4, v5⟩ := b27'
          rcases c2 with h | h | h
          · rw [v2 h, show (0 : Int32) = nI 0 from rfl, n_eq (by omega) (by omega)] at hh; omega
          · rw [v3 h, show (1 : Int32) = nI 1 from rfl, n_eq (by omega) (by omega)] at hh; omega
          · rw [v4 h, show (2 : Int32) = nI 2 from rfl, n_eq (by omega) (by omega)] at hh; omega), L_X9_text_59]
      · rw [if_neg c2, L_X9_text_59]
  constructor
  · rintro k2 cs ⟨ht, k', rfl, h17, hkk, hlen, ⟨hW, h160⟩, hs⟩
    have hlt := ps_lt B n k (by omega)
    have hsy := hs 500 (by omega)
    obtain ⟨σ3, p3, w3, d24, d25, dd⟩ := s_eRead_loop fu hfu hru 500 (k + 1) true true [] L 0 fu _ 1 k' (some (L ++ cs)) m2.to (by
      rw [g_56s, if_neg (by decide), g_56s, if_neg (by decide), g_k _ _ (show 56 ≠ 63 by decide)]; exact b24') (by omega) (by simp only [List.length_nil]; omega) (fun _ => rfl) hsy (by omega)
    obtain ⟨m3, l3, k3, h21⟩ := dd _ rfl
    have hlt' := ps_lt B n k' h21
    have w4 : mx ru (ow_sI σ1 63 (4 * ru + p) (nI L.length)) σ3 := ((mx.f ru _ (by omega) _).tr (mx.f ru _ (by omega) _)).tr w3.x
    have f63 : ∀ z, σ3.1 63 z = (ow_sI σ1 63 (4 * ru + p) (nI L.length)).1 63 z := fun z => by
      rw [w3.1 63 z (by omega) (by omega) (by omega), g_k _ _ (show 63 ≠ 56 by decide), g_k _ _ (show 63 ≠ 56 by decide)]
    refine ⟨σ3, ?_, ⟨w1.m.x.tr (w2.tr w4), fun z hz => by rw [f63, f2 z hz]⟩, mb.of m3, d24, by omega, by omega, by rw [f63, g_same]⟩
    rw [hsel, if_pos ht, h60, if_neg (by decide), f_X9_eRead, e_let, e_let]
    rw [show (if true = true then (1 : Int32) else 0) = 1 from rfl] at p3
    rw [p3, e_cl]
    exact if_neg (by simp)
  · rintro kf (⟨ht, rfl⟩ | ⟨ht, ⟨hkk, h160⟩, hs⟩)
    · refine ⟨ow_sI σ1 63 (4 * ru + p) (nI L.length), ?_, w1.m.x.tr w2, ?_, ?_⟩
      · rw [hsel, if_neg ht, h60, if_pos rfl]
      · rw [g_k _ _ (show 56 ≠ 63 by decide)]; exact b25
      · rw [g_k _ _ (show 56 ≠ 63 by decide)]; exact m1.2.2.1
    · have hlt := ps_lt B n k (by omega)
      have hsy := hs 500 (by omega)
      obtain ⟨σ3, p3, w3, d24, d25, dd⟩ := s_eRead_loop fu hfu hru 500 (k + 1) true true [] L 0 fu _ 1 kf none m2.to (by
        rw [g_56s, if_neg (by decide), g_56s, if_neg (by decide), g_k _ _ (show 56 ≠ 63 by decide)]; exact b24') (by omega) (by simp only [List.length_nil]; omega) (fun _ => rfl) hsy (by omega)
      have w4 : mx ru (ow_sI σ1 63 (4 * ru + p) (nI L.length)) σ3 := ((mx.f ru _ (by omega) _).tr (mx.f ru _ (by omega) _)).tr w3.x
      refine ⟨σ3, ?_, w1.m.x.tr (w2.tr w4), d25, ?_⟩
      · rw [hsel, if_pos ht, h60, if_neg (by decide), f_X9_eRead, e_let, e_let]
        rw [show (if true = true then (1 : Int32) else 0) = 1 from rfl] at p3
        rw [p3, e_cl]
        exact if_pos rfl
      · rw [w3.1 56 11 (by omega) (by omega) (by omega), g_56s, if_neg (by decide), g_56s, if_neg (by decide), g_k _ _ (show 56 ≠ 63 by decide)]; exact m1.2.2.1
theorem s_X9_text (fu : Nat) (hfu : 1000 ≤ fu) (hru : ru < 6) {σ : ow_S} (hb : m_by σ B n) (ht : m_tab σ) (h11 : σ.1 56 11 = nI ru) : (∀ c0 c1 c2, tO (Tk B n) c0 c1 c2 → ∃ σ', f_X9_text fu σ = some (nI ru, σ') ∧ mx ru σ σ' ∧ σ'.1 56 8 = 0 ∧ σ'.1 56 11 = nI (ru + 1) ∧ m_text σ'.1 ru (tT c0 c1 c2)) ∧ (∀ kf, tF (Tk B n) kf → ∃ σ', f_X9_text fu σ = some ((-100 : Int32) - nI (lx_pl B n (ps B n kf)), σ') ∧ mx ru σ σ' ∧ σ'.1 56 8 = 0 ∧ σ'.1 56 11 = nI ru) := by
  have hn := hb.2.1
  have hm : mb B n ru (ow_sI (ow_sI σ 56 24 0) 56 32 0) [] := by
    refine ⟨⟨by rw [g_56s, if_neg (by decide), g_56s, if_neg (by decide)]; exact hb.1, hn, fun i hi => by rw [g_k _ _ (show 61 ≠ 56 by decide), g_k _ _ (show 61 ≠ 56 by decide)]; exact hb.2.2.1 i hi, hb.2.2.2⟩, fun i z h1 h2 => by rw [g_k _ _ (show 70 ≠ 56 by decide), g_k _ _ (show 70 ≠ 56 by decide)]; exact ht i z h1 h2, by rw [g_56s, if_neg (by decide), g_56s, if_neg (by decide)]; exact h11, g_same _ _ _ _, fun j hj => by simp at hj⟩
  have h24 : (ow_sI (ow_sI σ 56 24 0) 56 32 0).1 56 24 = nI (ps B n 0) := by rw [g_56s, if_neg (by decide), g_56s, if_pos rfl]; rfl
  have w0 : mx ru σ (ow_sI (ow_sI σ 56 24 0) 56 32 0) := (mx.f ru _ (by omega) _).tr (mx.f ru _ (by omega) _)
  have e6 : nI ru = (6 : Int32) ↔ ru = 6 := n_eq (b := 6) (by omega) (by decide)
  have start : f_X9_text fu σ = L_X9_text_26 fu fu 1 (nI 0) (ow_sI (ow_sI σ 56 24 0) 56 32 0) := by
    rw [f_X9_text, h11]
    simp only [e6]
    rw [if_neg (by omega), e_let, e_let]
    rfl
  rw [start]
  revert hm h24 w0
  generalize ow_sI (ow_sI σ 56 24 0) 56 32 0 = τ
  intro hm h24 w0
  obtain ⟨f, rfl⟩ : ∃ f, fu = f + 4 := ⟨fu - 4, by omega⟩
  have end0 : ∀ (σ2 : ow_S) (kf : Nat), mx ru σ σ2 → σ2.1 56 25 = nI (lx_pl B n (ps B n kf)) → σ2.1 56 11 = nI ru → ∃ σ', L_X9_text_122 (f + 4) 0 σ2 = some ((-100 : Int32) - nI (lx_pl B n (ps B n kf)), σ') ∧ mx ru σ σ' ∧ σ'.1 56 8 = 0 ∧ σ'.1 56 11 = nI ru := by
    intro σ2 kf w d25 d11
    refine ⟨ow_sI (ow_sI σ2 63 (4 * ru + 3) (σ2.1 56 32)) 56 8 0, ?_, w.tr ((mx.p _ (by omega) _).tr (mx.f ru _ (by omega) _)), g_same _ _ _ _, ?_⟩
    · rw [L_X9_text_122, d11, show (4 : Int32) = nI 4 from rfl, show (3 : Int32) = nI 3 from rfl, n_mul, n_add, e_ckn _ (by omega) (by omega), n_cl (a := 4 * ru + 3) (by omega), e_let, e_let, if_pos rfl, g_56s, if_neg (by decide), g_k _ _ (show 56 ≠ 63 by decide), d25]
    · rw [g_56s, if_neg (by decide), g_k _ _ (show 56 ≠ 63 by decide)]; exact d11
  have fail : ∀ (fn p : Nat) (σ2 : ow_S), p ≤ 3 → L_X9_text_26 (f + 4) (fn + 1) 0 (nI p) σ2 = L_X9_text_122 (f + 4) 0 σ2 := by
    intro fn p σ2 hp
    have : L_X9_text_101 (f + 4) 0 σ2 = L_X9_text_122 (f + 4) 0 σ2 := by rw [L_X9_text_101, if_pos rfl]
    rw [L_X9_text_26, this, if_pos rfl, ite_self]
  have last : ∀ (σ2 : ow_S) (k : Nat) (L : List Nat), mx ru σ σ2 → mb B n ru σ2 L → σ2.1 56 24 = nI (ps B n k) → ∃ σ', mx ru σ σ' ∧ σ'.1 56 25 = nI (lx_pl B n (ps B n k)) ∧ σ'.1 56 11 = nI ru ∧ m_lfr σ2 σ' ∧ L_X9_text_26 (f + 4) (f + 1) 1 (nI 3) σ2 = L_X9_text_122 (f + 4) (if Tk B n k = 21 then 1 else 0) σ' := by
    intro σ2 k L w m h24
    obtain ⟨σ3, p3, b24, b25, b26, b27, w3⟩ := s_X9_next (f + 4) hfu m.1 m.2.1 (ps_le B n k) h24
    have htk := lx_tk_ok B n (ps B n k)
    have b26' : σ3.1 56 26 = y_t (Tk B n k) := b26
    obtain ⟨c17, c16, c1, c2, c6, c12, c15, c3, c0⟩ := y_t_c (t := Tk B n k) (by have : lx_tk B n (ps B n k) = Tk B n k := rfl; omega)
    refine ⟨σ3, w.tr w3.m.x, b25, (w3.1 56 11 (by omega)).trans m.2.2.1, w3, ?_⟩
    rw [L_X9_text_26, if_pos (by decide), L_X9_text_101, if_neg (by decide), p3, e_cv, b26']
    simp only [c0, L_X9_text_121]
    by_cases c : Tk B n k = 21
    · rw [if_pos c, if_pos c]
    · rw [if_neg c, if_neg c]
  obtain ⟨P0o, P0f⟩ := s_m_part (f + 4) hfu hru (p := 0) (by decide) hm h24 (Nat.zero_le _) (Nat.zero_le _) (f + 3)
  constructor
  · rintro c0 c1 c2 ⟨k1, k2, k3, o0, o1, o2, he⟩
    obtain ⟨σ1, p1, ⟨w1, g1⟩, m1, a1, b1, l1, d1⟩ := P0o _ _ o0
    obtain ⟨σ2, p2, ⟨w2, g2⟩, m2, a2, b2, l2, d2⟩ := (s_m_part (f + 4) hfu hru (p := 1) (by decide) m1 a1 b1 l1 (f + 2)).1 _ _ o1
    obtain ⟨σ3, p3, ⟨w3, g3⟩, m3, a3, b3, l3, d3⟩ := (s_m_part (f + 4) hfu hru (p := 2) (by decide) m2 a2 b2 l2 (f + 1)).1 _ _ o2
    obtain ⟨σ4, w4, d25, d11, v4, p4⟩ := last σ3 k3 _ (((w0.tr w1).tr w2).tr w3) m3 a3
    have m4 := m3.fr v4
    simp only [List.nil_append, List.length_append, List.length_nil] at l3 d1 d2 d3 m4
    have hps3 := ps_le B n k3
    have off : t_off (tT c0 c1 c2) 0 = 0 ∧ t_off (tT c0 c1 c2) 1 = c0.length ∧ t_off (tT c0 c1 c2) 2 = c0.length + c1.length ∧ t_off (tT c0 c1 c2) 3 = c0.length + c1.length + c2.length := by
      refine ⟨?_, ?_, ?_, ?_⟩ <;> simp [t_off, tT]
    have hlen : (c0 ++ c1 ++ c2).length = c0.length + c1.length + c2.length := by rw [List.length_append, List.length_append]
    have h32 : σ4.1 56 32 = nI (c0.length + c1.length + c2.length) := by rw [← hlen]; exact m4.2.2.2.1
    refine ⟨ow_sI (ow_sI (ow_sI σ4 63 (4 * ru + 3) (nI (c0.length + c1.length + c2.length))) 56 8 0) 56 11 (nI (ru + 1)), ?_, w4.tr (((mx.p _ (by omega) _).tr (mx.f ru _ (by omega) _)).tr (mx.f ru _ (by omega) _)), ?_, g_same _ _ _ _, ?_⟩
    · rw [p1, p2, p3, p4, if_pos he, L_X9_text_122, d11, h32, show (4 : Int32) = nI 4 from rfl, show (3 : Int32) = nI 3 from rfl, n_mul, n_add, e_ckn _ (by omega) (by omega), n_cl (a := 4 * ru + 3) (by omega), e_let, e_let, if_neg (by decide), g_56s, if_neg (by decide), g_k _ _ (show 56 ≠ 63 by decide), d11, show (1 : Int32) = nI 1 from rfl, n_add, e_let, g_same, n_sub (by omega), Nat.add_sub_cancel]
    · rw [g_56s, if_neg (by decide), g_same]
    · have e63 : ∀ z, (ow_sI (ow_sI (ow_sI σ4 63 (4 * ru + 3) (nI (c0.length + c1.length + c2.length))) 56 8 0) 56 11 (nI (ru + 1))).1 63 z = if z = 4 * ru + 3 then nI (c0.length + c1.length + c2.length) else σ4.1 63 z := by
        intro z
        rw [g_k _ _ (show 63 ≠ 56 by decide), g_k _ _ (show 63 ≠ 56 by decide), g_if, if_pos rfl]
      have e62 : (ow_sI (ow_sI (ow_sI σ4 63 (4 * ru + 3) (nI (c0.length + c1.length + c2.length))) 56 8 0) 56 11 (nI (ru + 1))).1 62 = σ4.1 62 := by
        rw [g_k _ _ (show 62 ≠ 56 by decide), g_k _ _ (show 62 ≠ 56 by decide), g_k _ _ (show 62 ≠ 63 by decide)]
      refine ⟨?_, ?_, ?_, ?_⟩
      · rw [off.2.2.2]; omega
      · intro p hp
        rw [e63]
        rcases (show p = 0 ∨ p = 1 ∨ p = 2 ∨ p = 3 by omega) with rfl | rfl | rfl | rfl
        · rw [if_neg (by omega), v4.1 63 _ (by omega), g3 _ (by omega), g2 _ (by omega), d1, off.1]
        · rw [if_neg (by omega), v4.1 63 _ (by omega), g3 _ (by omega), d2, off.2.1]
        · rw [if_neg (by omega), v4.1 63 _ (by omega), d3, off.2.2.1]
        · rw [if_pos rfl, off.2.2.2]
      · intro p hp
        rcases (show p = 0 ∨ p = 1 ∨ p = 2 by omega) with rfl | rfl | rfl
        · exact o0.2.choose_spec.2.2.2.2.1.1.wf
        · exact o1.2.choose_spec.2.2.2.2.1.1.wf
        · exact o2.2.choose_spec.2.2.2.2.1.1.wf
      · intro p j hp hj
        rw [e62]
        have a10 := m4.2.2.2.2
        simp only [List.length_append] at a10
        rcases (show p = 0 ∨ p = 1 ∨ p = 2 by omega) with rfl | rfl | rfl
        · have hj' : j < c0.length := hj
          rw [off.1, Nat.zero_add, a10 j (by omega)]
          congr 2
          show (c0 ++ c1 ++ c2).getD j 0 = c0.getD j 0
          rw [List.getD_eq_getElem?_getD, List.getElem?_append_left (by simp; omega), List.getElem?_append_left (by omega), ← List.getD_eq_getElem?_getD]
        · have hj' : j < c1.length := hj
          rw [off.2.1, a10 (c0.length + j) (by omega)]
          congr 2
          show (c0 ++ c1 ++ c2).getD (c0.length + j) 0 = c1.getD j 0
          rw [List.getD_eq_getElem?_getD, List.getElem?_append_left (by simp; omega), List.getElem?_append_right (by omega), ← List.getD_eq_getElem?_getD, Nat.add_sub_cancel_left]
        · have hj' : j < c2.length := hj
          rw [off.2.2.1, a10 (c0.length + c1.length + j) (by omega)]
          congr 2
          show (c0 ++ c1 ++ c2).getD (c0.length + c1.length + j) 0 = c2.getD j 0
          rw [List.getD_eq_getElem?_getD, List.getElem?_append_right (by simp), ← List.getD_eq_getElem?_getD]
          congr 1
          simp
  · rintro kf (f0 | ⟨k1, c0, o0, h⟩)
    · obtain ⟨σ1, p1, w1, d25, d11⟩ := P0f _ f0
      obtain ⟨σ', e, r⟩ := end0 σ1 kf (w0.tr w1) d25 d11
      exact ⟨σ', by rw [p1, fail _ _ _ (by decide)]; exact e, r⟩
    · obtain ⟨σ1, p1, ⟨w1, g1⟩, m1, a1, b1, l1, d1⟩ := P0o _ _ o0
      obtain ⟨P1o, P1f⟩ := s_m_part (f + 4) hfu hru (p := 1) (by decide) m1 a1 b1 l1 (f + 2)
      rcases h with f1 | ⟨k2, c1, o1, h⟩
      · obtain ⟨σ2, p2, w2, d25, d11⟩ := P1f _ f1
        obtain ⟨σ', e, r⟩ := end0 σ2 kf ((w0.tr w1).tr w2) d25 d11
        exact ⟨σ', by rw [p1, p2, fail _ _ _ (by decide)]; exact e, r⟩
      · obtain ⟨σ2, p2, ⟨w2, g2⟩, m2, a2, b2, l2, d2⟩ := P1o _ _ o1
        obtain ⟨P2o, P2f⟩ := s_m_part (f + 4) hfu hru (p := 2) (by decide) m2 a2 b2 l2 (f + 1)
        rcases h with f2 | ⟨c2, o2, he⟩
        · obtain ⟨σ3, p3, w3, d25, d11⟩ := P2f _ f2
          obtain ⟨σ', e, r⟩ := end0 σ3 kf (((w0.tr w1).tr w2).tr w3) d25 d11
          exact ⟨σ', by rw [p1, p2, p3, fail _ _ _ (by decide)]; exact e, r⟩
        · obtain ⟨σ3, p3, ⟨w3, g3⟩, m3, a3, b3, l3, d3⟩ := P2o _ _ o2
          obtain ⟨σ4, w4, d25, d11, v4, p4⟩ := last σ3 kf _ (((w0.tr w1).tr w2).tr w3) m3 a3
          obtain ⟨σ', e, r⟩ := end0 σ4 kf w4 d25 d11
          exact ⟨σ', by rw [p1, p2, p3, p4, if_neg he]; exact e, r⟩
end
