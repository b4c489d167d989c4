/-! THE FIRST STATE: both constructors leave memories alike -/
def b40 : List Nat := [102, 105, 114, 115, 116, 32, 97, 32, 45, 32, 105, 116, 101, 109, 32, 59, 32, 115, 101, 99, 111, 110, 100, 32, 98, 32, 43, 32, 49, 32, 59, 32, 115, 97, 121, 115, 32, 97, 32, 59]
def B40 (i : Nat) : Nat := b40.getD i 0
theorem B40_ch : ∀ i, i < 40 → ow_ch 0 (nI i) = nI (B40 i) := by decide +kernel
theorem B40_lt (i : Nat) : B40 i < 256 := by
  by_cases h : i < 40
  · exact (by decide +kernel : ∀ i, i < 40 → B40 i < 256) i h
  · unfold B40
    rw [List.getD_eq_getElem?_getD, List.getElem?_eq_none (show b40.length ≤ i from Nat.not_lt.mp h)]; decide
theorem B40_p0 : ps B40 40 0 = 0 := rfl
theorem B40_p1 : ps B40 40 1 = 5 := by
  show lx_nx B40 40 (ps B40 40 0) = 5
  rw [B40_p0]; decide +kernel
theorem B40_p2 : ps B40 40 2 = 7 := by
  show lx_nx B40 40 (ps B40 40 1) = 7
  rw [B40_p1]; decide +kernel
theorem B40_p3 : ps B40 40 3 = 9 := by
  show lx_nx B40 40 (ps B40 40 2) = 9
  rw [B40_p2]; decide +kernel
theorem B40_p4 : ps B40 40 4 = 14 := by
  show lx_nx B40 40 (ps B40 40 3) = 14
  rw [B40_p3]; decide +kernel
theorem B40_p5 : ps B40 40 5 = 16 := by
  show lx_nx B40 40 (ps B40 40 4) = 16
  rw [B40_p4]; decide +kernel
theorem B40_p6 : ps B40 40 6 = 23 := by
  show lx_nx B40 40 (ps B40 40 5) = 23
  rw [B40_p5]; decide +kernel
theorem B40_p7 : ps B40 40 7 = 25 := by
  show lx_nx B40 40 (ps B40 40 6) = 25
  rw [B40_p6]; decide +kernel
theorem B40_p8 : ps B40 40 8 = 27 := by
  show lx_nx B40 40 (ps B40 40 7) = 27
  rw [B40_p7]; decide +kernel
theorem B40_p9 : ps B40 40 9 = 29 := by
  show lx_nx B40 40 (ps B40 40 8) = 29
  rw [B40_p8]; decide +kernel
theorem B40_p10 : ps B40 40 10 = 31 := by
  show lx_nx B40 40 (ps B40 40 9) = 31
  rw [B40_p9]; decide +kernel
theorem B40_p11 : ps B40 40 11 = 36 := by
  show lx_nx B40 40 (ps B40 40 10) = 36
  rw [B40_p10]; decide +kernel
theorem B40_p12 : ps B40 40 12 = 38 := by
  show lx_nx B40 40 (ps B40 40 11) = 38
  rw [B40_p11]; decide +kernel
theorem B40_p13 : ps B40 40 13 = 40 := by
  show lx_nx B40 40 (ps B40 40 12) = 40
  rw [B40_p12]; decide +kernel
theorem B40_t0 : Tk B40 40 0 = 18 := by
  show lx_tk B40 40 (ps B40 40 0) = 18
  rw [B40_p0]; decide +kernel
theorem B40_t1 : Tk B40 40 1 = 0 := by
  show lx_tk B40 40 (ps B40 40 1) = 0
  rw [B40_p1]; decide +kernel
theorem B40_t2 : Tk B40 40 2 = 12 := by
  show lx_tk B40 40 (ps B40 40 2) = 12
  rw [B40_p2]; decide +kernel
theorem B40_t3 : Tk B40 40 3 = 2 := by
  show lx_tk B40 40 (ps B40 40 3) = 2
  rw [B40_p3]; decide +kernel
theorem B40_t4 : Tk B40 40 4 = 17 := by
  show lx_tk B40 40 (ps B40 40 4) = 17
  rw [B40_p4]; decide +kernel
theorem B40_t5 : Tk B40 40 5 = 19 := by
  show lx_tk B40 40 (ps B40 40 5) = 19
  rw [B40_p5]; decide +kernel
theorem B40_t6 : Tk B40 40 6 = 1 := by
  show lx_tk B40 40 (ps B40 40 6) = 1
  rw [B40_p6]; decide +kernel
theorem B40_t7 : Tk B40 40 7 = 11 := by
  show lx_tk B40 40 (ps B40 40 7) = 11
  rw [B40_p7]; decide +kernel
theorem B40_t8 : Tk B40 40 8 = 101 := by
  show lx_tk B40 40 (ps B40 40 8) = 101
  rw [B40_p8]; decide +kernel
theorem B40_t9 : Tk B40 40 9 = 17 := by
  show lx_tk B40 40 (ps B40 40 9) = 17
  rw [B40_p9]; decide +kernel
theorem B40_t10 : Tk B40 40 10 = 20 := by
  show lx_tk B40 40 (ps B40 40 10) = 20
  rw [B40_p10]; decide +kernel
theorem B40_t11 : Tk B40 40 11 = 0 := by
  show lx_tk B40 40 (ps B40 40 11) = 0
  rw [B40_p11]; decide +kernel
theorem B40_t12 : Tk B40 40 12 = 17 := by
  show lx_tk B40 40 (ps B40 40 12) = 17
  rw [B40_p12]; decide +kernel
theorem B40_t13 : Tk B40 40 13 = 21 := by
  show lx_tk B40 40 (ps B40 40 13) = 21
  rw [B40_p13]; decide +kernel
theorem B40_tO : tO (Tk B40 40) [0, 2, 12] [1, 101, 11] [0] := by
  have h0 : Tk B40 40 0 = 18 := B40_t0
  have h1 : Tk B40 40 1 = 0 := B40_t1
  have h2 : Tk B40 40 2 = 12 := B40_t2
  have h3 : Tk B40 40 3 = 2 := B40_t3
  have h4 : Tk B40 40 4 = 17 := B40_t4
  have h5 : Tk B40 40 5 = 19 := B40_t5
  have h6 : Tk B40 40 6 = 1 := B40_t6
  have h7 : Tk B40 40 7 = 11 := B40_t7
  have h8 : Tk B40 40 8 = 101 := B40_t8
  have h9 : Tk B40 40 9 = 17 := B40_t9
  have h10 : Tk B40 40 10 = 20 := B40_t10
  have h11 : Tk B40 40 11 = 0 := B40_t11
  have h12 : Tk B40 40 12 = 17 := B40_t12
  have h13 : Tk B40 40 13 = 21 := B40_t13
  generalize Tk B40 40 = tk at *
  refine ⟨5, 10, 13, ⟨h0, 4, rfl, h4, by decide, by decide, ⟨(y_W.one (by decide) (by decide)).bin (y_W.one (by decide) (by decide)) (by decide), by decide⟩, fun n hn => ?_⟩, ⟨h5, 9, rfl, h9, by decide, by decide, ⟨(y_W.one (by decide) (by decide)).bin (y_W.one (by decide) (by decide)) (by decide), by decide⟩, fun n hn => ?_⟩, ⟨h10, 12, rfl, h12, by decide, by decide, ⟨y_W.one (by decide) (by decide), by decide⟩, fun n hn => ?_⟩, h13⟩
  · obtain ⟨m, rfl⟩ : ∃ m, n = m + 4 := ⟨n - 4, by omega⟩
    simp [sy, h1, h2, h3, h4, y_u, y_unw, y_rank, y_op]
  · obtain ⟨m, rfl⟩ : ∃ m, n = m + 4 := ⟨n - 4, by omega⟩
    simp [sy, h6, h7, h8, h9, y_u, y_unw, y_rank, y_op]
  · obtain ⟨m, rfl⟩ : ∃ m, n = m + 2 := ⟨n - 2, by omega⟩
    simp [sy, h11, h12, y_u, y_unw, y_rank, y_op]
theorem pO_pF {tk : Nat → Nat} {p k k2 k' : Nat} {L cs : List Nat} (a : pO tk p k L k2 cs) (b : pF tk p k L k') : False := by
  obtain ⟨a1, kk, -, -, -, -, ⟨-, a3⟩, a4⟩ := a
  rcases b with ⟨b1, -⟩ | ⟨-, ⟨-, b2⟩, b3⟩
  · exact b1 a1
  · have e1 := a4 1000 (by omega)
    have e2 := b3 1000 (by omega)
    rw [e1] at e2
    cases e2
theorem pO_pO {tk : Nat → Nat} {p k k2 k2' : Nat} {L cs cs' : List Nat} (a : pO tk p k L k2 cs) (b : pO tk p k L k2' cs') : k2 = k2' ∧ cs = cs' := by
  obtain ⟨a1, kk, e, -, -, -, ⟨-, a3⟩, a4⟩ := a
  obtain ⟨b1, kk', e', -, -, -, ⟨-, b3⟩, b4⟩ := b
  have e1 := a4 1000 (by omega)
  have e2 := b4 1000 (by omega)
  rw [e1] at e2
  have e3 := Option.some.inj e2
  have e4 := congrArg Prod.fst e3
  have e5 := List.append_cancel_left (Option.some.inj (congrArg Prod.snd e3))
  dsimp only at e4
  exact ⟨by omega, e5⟩
theorem tO_tF {tk : Nat → Nat} {c0 c1 c2 : List Nat} {kf : Nat} (a : tO tk c0 c1 c2) (b : tF tk kf) : False := by
  obtain ⟨k1, k2, k3, a0, a1, a2, a3⟩ := a
  rcases b with b | ⟨k1', c0', b0, b⟩
  · exact pO_pF a0 b
  obtain ⟨rfl, rfl⟩ := pO_pO a0 b0
  rcases b with b | ⟨k2', c1', b1, b⟩
  · exact pO_pF a1 b
  obtain ⟨rfl, rfl⟩ := pO_pO a1 b1
  rcases b with b | ⟨c2', b2, b⟩
  · exact pO_pF a2 b
  obtain ⟨rfl, -⟩ := pO_pO a2 b2
  exact b a3
theorem tO_tO {tk : Nat → Nat} {c0 c1 c2 d0 d1 d2 : List Nat} (a : tO tk c0 c1 c2) (b : tO tk d0 d1 d2) : d0 = c0 ∧ d1 = c1 ∧ d2 = c2 := by
  obtain ⟨k1, k2, k3, a0, a1, a2, a3⟩ := a
  obtain ⟨k1', k2', k3', b0, b1, b2, b3⟩ := b
  obtain ⟨rfl, rfl⟩ := pO_pO a0 b0
  obtain ⟨rfl, rfl⟩ := pO_pO a1 b1
  obtain ⟨rfl, rfl⟩ := pO_pO a2 b2
  exact ⟨rfl, rfl, rfl⟩
