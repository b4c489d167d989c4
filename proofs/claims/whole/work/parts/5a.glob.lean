/-! the law's globals at its start -/
theorem lw_in (ws : List Cond) (ps : List (Nat × Nat)) (hp : ws = ps.filterMap (fun q => (lw_ch q.1)[q.2]?)) : ∀ w ∈ ws, w ∈ lw_tbl := by
  intro w hw
  rw [hp] at hw
  obtain ⟨q, -, hi⟩ := List.mem_filterMap.mp hw
  exact lw_ch_in q.1 w (List.mem_of_getElem? hi)
def gl_F : List Cond := flatC (Jvm.Cond.and given_1 narrow_1)
theorem gl_in (ws : List Cond) (ps : List Nat) (hp : ws = ps.filterMap (fun q => gl_F[q]?)) : ∀ w ∈ ws, w ∈ gl_F := by
  intro w hw
  rw [hp] at hw
  obtain ⟨q, -, hi⟩ := List.mem_filterMap.mp hw
  exact List.mem_of_getElem? hi
def gl_t (i : Nat) : Term := .string (ow_sq i).1 (ow_sq i).2.1
def gl_v (i : Nat) : Term := .field (gl_t i) "java/lang/String" "value" "[B"
def gl_w (i : Nat) : List Cond := [Cond.exactly (gl_t i) "java/lang/String", Cond.eq (.field (gl_t i) "java/lang/String" "coder" "B") (.int 0), Cond.arrayOf (gl_v i) .byte, Cond.eq (.length (gl_v i)) (.int (Int32.ofNat (ow_sl.getD i 0)))] ++ (List.range (ow_sl.getD i 0)).map (fun j => Cond.eq (.elem (gl_v i) (.int (Int32.ofNat j))) (.int ((ow_sb.getD i []).getD j 0)))
def gl_ws : List Cond := (List.range 13).flatMap gl_w
def gl_nq : List Cond := (List.range 13).flatMap (fun j => (List.range j).map (fun i => Cond.not (Cond.eq (gl_t i) (gl_t j))))
def gl_kt : Term := .static "FiftyOneCards" "KIND_ABOVE" "[I"
def gl_ks : List Cond := [Cond.arrayOf gl_kt .int, Cond.eq (.length gl_kt) (.int (Int32.ofNat 6))] ++ (List.range 6).map (fun j => Cond.eq (.elem gl_kt (.int (Int32.ofNat j))) (.int (ow_ka j)))
set_option maxRecDepth 20000 in
theorem gl_ws_in : ∀ w ∈ gl_ws, w ∈ gl_F := gl_in _ [48, 49, 50, 51, 52, 53, 54, 55, 56, 57, 58, 59, 60, 61, 62, 63, 64, 65, 66, 67, 68, 69, 70, 71, 72, 73, 74, 75, 76, 77, 78, 79, 80, 81, 82, 83, 84, 85, 86, 87, 88, 89, 90, 91, 92, 93, 94, 95, 96, 98, 99, 100, 101, 102, 105, 106, 107, 108, 109, 110, 111, 112, 116, 117, 118, 119, 120, 121, 122, 123, 124, 129, 130, 131, 132, 133, 139, 140, 141, 142, 143, 144, 145, 146, 153, 154, 155, 156, 157, 158, 166, 167, 168, 169, 170, 171, 172, 181, 182, 183, 184, 185, 186, 187, 197, 198, 199, 200, 201, 202, 203, 204, 205, 216, 217, 218, 219, 220, 221, 222, 223, 224, 225, 237, 238, 239, 240, 241, 242, 243, 244] rfl
set_option maxRecDepth 20000 in
theorem gl_nq_in : ∀ w ∈ gl_nq, w ∈ gl_F := gl_in _ [97, 103, 104, 113, 114, 115, 125, 126, 127, 128, 134, 135, 136, 137, 138, 147, 148, 149, 150, 151, 152, 159, 160, 161, 162, 163, 164, 165, 173, 174, 175, 176, 177, 178, 179, 180, 188, 189, 190, 191, 192, 193, 194, 195, 196, 206, 207, 208, 209, 210, 211, 212, 213, 214, 215, 226, 227, 228, 229, 230, 231, 232, 233, 234, 235, 236, 245, 246, 247, 248, 249, 250, 251, 252, 253, 254, 255, 256] rfl
set_option maxRecDepth 20000 in
theorem gl_ks_in : ∀ w ∈ gl_ks, w ∈ gl_F := gl_in _ [10, 11, 12, 13, 14, 15, 16, 17] rfl
theorem gl_z1 : Cond.eq (.static "java/lang/String" "COMPACT_STRINGS" "Z") (.int 1) ∈ gl_F := List.mem_of_getElem? (i := 4) rfl
theorem gl_z2 : Cond.isRef (.static "jdk/internal/util/Preconditions" "SIOOBE_FORMATTER" "Ljava/util/function/BiFunction;") ∈ gl_F := List.mem_of_getElem? (i := 5) rfl
set_option maxRecDepth 20000 in
theorem gl_nw : ∀ w ∈ ow_nw, w ∈ lw_tbl := lw_in _ [(1, 27), (1, 32), (1, 33), (1, 35), (1, 36), (1, 46), (1, 51), (1, 53), (1, 54), (1, 56), (1, 58), (1, 59), (1, 61), (1, 62), (1, 76), (1, 82), (1, 107), (1, 112), (1, 124), (1, 136), (1, 141), (1, 143), (1, 145), (1, 147), (1, 149), (1, 151), (1, 153), (1, 155), (1, 170), (1, 175), (1, 189), (1, 194), (1, 196), (1, 198), (2, 15), (2, 23), (2, 27), (2, 105), (2, 121), (2, 184)] rfl
set_option maxRecDepth 20000 in
theorem gl_nw2 : ∀ w ∈ ow_nw2, w ∈ lw_tbl := lw_in _ [(2, 200), (2, 208), (2, 216), (2, 224), (2, 237), (3, 13), (3, 17), (3, 21), (3, 57), (3, 61), (3, 65), (3, 69), (3, 79), (3, 83), (3, 128), (3, 137), (3, 142), (3, 154), (3, 159), (3, 169), (3, 170), (3, 171), (3, 185), (3, 205), (3, 213), (3, 221), (3, 229), (3, 234), (4, 5), (4, 33), (4, 61), (4, 67), (4, 87), (4, 91), (4, 97), (4, 121), (4, 126)] rfl
def gl_sr : List Cond := (List.range 13).map (fun i => Cond.stringRef (ow_sq i).1 (ow_sq i).2.1 (ow_sq i).2.2)
theorem gl_sr_in : ∀ w ∈ gl_sr, w ∈ lw_tbl := lw_in _ [(1, 206), (2, 49), (2, 56), (2, 57), (2, 58), (2, 59), (2, 60), (2, 61), (2, 62), (2, 63), (2, 64), (2, 65), (2, 66)] rfl
theorem gl_K {args : Array Value} {s : State} (hts : ∀ w ∈ lw_tbl, w.before args s = true) : ∃ (D : va_G) (cA : Nat → ClassId), ∀ (ad adK adV : Nat → Nat) (tk : Nat), va_K D vwCl (ow_ty (D, cA, ad, adK, adV, tk)) s := by
  obtain ⟨c0, i0, h0⟩ := u_known (T := TX0) (N := 5) (C := RX0) (n := 5) hts (fun w h => (gw_wsX00 w h).1) (hts _ (lw_ch_in 1 _ (List.mem_of_getElem? (i := 45) rfl)))
  obtain ⟨c1, i1, h1⟩ := u_known (T := TX1) (N := 6) (C := RX1) (n := 6) hts (fun w h => (gw_wsX10 w h).1) (hts _ (lw_ch_in 1 _ (List.mem_of_getElem? (i := 135) rfl)))
  obtain ⟨c2, i2, h2⟩ := u_known (T := TX2) (N := 1) (C := RX2) (n := 1) hts (fun w h => (gw_wsX20 w h).1) (hts _ (lw_ch_in 1 _ (List.mem_of_getElem? (i := 123) rfl)))
  obtain ⟨c3, i3, h3⟩ := u_known (T := TX3) (N := 7) (C := RX3) (n := 7) hts (fun w h => (gw_wsX30 w h).1) (hts _ (lw_ch_in 1 _ (List.mem_of_getElem? (i := 75) rfl)))
  obtain ⟨c4, i4, h4⟩ := u_known (T := TX4) (N := 2) (C := RX4) (n := 2) hts (fun w h => (gw_wsX40 w h).1) (hts _ (lw_ch_in 1 _ (List.mem_of_getElem? (i := 26) rfl)))
  obtain ⟨c5, i5, h5⟩ := u_known (T := TX5) (N := 3) (C := RX5) (n := 3) hts (fun w h => (gw_wsX50 w h).1) (hts _ (lw_ch_in 1 _ (List.mem_of_getElem? (i := 188) rfl)))
  obtain ⟨c6, i6, h6⟩ := u_known (T := TX6) (N := 4) (C := RX6) (n := 4) hts (fun w h => (gw_wsX60 w h).1) (hts _ (lw_ch_in 1 _ (List.mem_of_getElem? (i := 169) rfl)))
  obtain ⟨c7, i7, h7⟩ := u_known (T := TX7) (N := 3) (C := RX7) (n := 3) hts (fun w h => (gw_wsX70 w h).1) (hts _ (lw_ch_in 1 _ (List.mem_of_getElem? (i := 106) rfl)))
  obtain ⟨c8, i8, h8⟩ := u_known (T := TX8) (N := 15) (C := RX8) (n := 15) hts (fun w h => (gw_wsX80 w h).1) (hts _ (lw_ch_in 1 _ (List.mem_of_getElem? (i := 18) rfl)))
  obtain ⟨c9, i9, h9⟩ := u_known (T := TX9) (N := 41) (C := RX9) (n := 41) hts (fun w h => (gw_wsX90 w h).1) (hts _ (lw_ch_in 4 _ (List.mem_of_getElem? (i := 148) rfl)))
  obtain ⟨m0, a0, k0, p0, -, q0, r0, s0⟩ := Cond.arrayOver_spec (hts _ (lw_ch_in 1 _ (List.mem_of_getElem? (i := 44) rfl)))
  obtain ⟨m1, a1, k1, p1, -, q1, r1, s1⟩ := Cond.arrayOver_spec (hts _ (lw_ch_in 1 _ (List.mem_of_getElem? (i := 133) rfl)))
  obtain ⟨m2, a2, k2, p2, -, q2, r2, s2⟩ := Cond.arrayOver_spec (hts _ (lw_ch_in 1 _ (List.mem_of_getElem? (i := 104) rfl)))
  obtain ⟨a3, k3, m3, p3, q3, r3⟩ := Cond.arrayClass_spec (type := .int) (hts _ (lw_ch_in 1 _ (List.mem_of_getElem? (i := 42) rfl)))
  refine ⟨(fun c => [c0, c1, c2, c3, c4, c5, c6, c7, c8, c9].getD c 0, fun c => [i0, i1, i2, i3, i4, i5, i6, i7, i8, i9].getD c (fun _ => 0)), fun k => [a3, a0, a1, a2].getD (k - 10) 0, fun ad adK adV tk => ⟨fun c q hq => ?_, fun k q hk => ?_⟩⟩
  · have hc : c < 10 := (List.getElem?_eq_some_iff.mp hq).1
    obtain rfl | rfl | rfl | rfl | rfl | rfl | rfl | rfl | rfl | rfl : c = 0 ∨ c = 1 ∨ c = 2 ∨ c = 3 ∨ c = 4 ∨ c = 5 ∨ c = 6 ∨ c = 7 ∨ c = 8 ∨ c = 9 := by omega
    · obtain rfl := Option.some.inj (hq : some (RX0, TX0, 5) = some q); exact h0
    · obtain rfl := Option.some.inj (hq : some (RX1, TX1, 6) = some q); exact h1
    · obtain rfl := Option.some.inj (hq : some (RX2, TX2, 1) = some q); exact h2
    · obtain rfl := Option.some.inj (hq : some (RX3, TX3, 7) = some q); exact h3
    · obtain rfl := Option.some.inj (hq : some (RX4, TX4, 2) = some q); exact h4
    · obtain rfl := Option.some.inj (hq : some (RX5, TX5, 3) = some q); exact h5
    · obtain rfl := Option.some.inj (hq : some (RX6, TX6, 4) = some q); exact h6
    · obtain rfl := Option.some.inj (hq : some (RX7, TX7, 3) = some q); exact h7
    · obtain rfl := Option.some.inj (hq : some (RX8, TX8, 15) = some q); exact h8
    · obtain rfl := Option.some.inj (hq : some (RX9, TX9, 41) = some q); exact h9
  · have hc : k < 4 := (List.getElem?_eq_some_iff.mp hk).1
    obtain rfl | rfl | rfl | rfl : k = 0 ∨ k = 1 ∨ k = 2 ∨ k = 3 := by omega
    · obtain rfl := Option.some.inj (hk : some (a3, FieldType.int) = some q); exact ⟨fun n z => ⟨fun k h => (by cases h), k3, q3, m3, r3⟩, p3⟩
    · obtain rfl := Option.some.inj (hk : some (a0, FieldType.object "FiftyOneCards$Head") = some q); exact ⟨fun n z => ⟨fun k h => (by cases h), k0, q0, m0, r0⟩, k0, m0, q0, r0, p0, s0⟩
    · obtain rfl := Option.some.inj (hk : some (a1, FieldType.object "FiftyOneCards$Sheet") = some q); exact ⟨fun n z => ⟨fun k h => (by cases h), k1, q1, m1, r1⟩, k1, m1, q1, r1, p1, s1⟩
    · obtain rfl := Option.some.inj (hk : some (a2, FieldType.object "FiftyOneCards$Text") = some q); exact ⟨fun n z => ⟨fun k h => (by cases h), k2, q2, m2, r2⟩, k2, m2, q2, r2, p2, s2⟩
theorem gl_all {args : Array Value} {s : State} (hts : ∀ w ∈ lw_tbl, w.before args s = true) (hgv : (Jvm.Cond.and given_1 narrow_1).before args s = true) : ∃ Z : ow_Z, ow_Gv Z s ∧ ow_Gs Z (fun q => s.heap.size ≤ q) s s.heap := by
  have hq : ∀ w ∈ gl_F, w.before args s = true := flat_of_before _ hgv
  have hA : ∀ a : Nat, a < s.heap.size → ¬ s.heap.size ≤ a := fun a h => by omega
  obtain ⟨D, cA, hK⟩ := gl_K hts
  have hw : ∀ (i : Nat), i < 13 → ∀ w ∈ gl_w i, w.before args s = true := fun i hi w hw => hq w (gl_ws_in w (List.mem_flatMap.mpr ⟨i, List.mem_range.mpr hi, hw⟩))
  obtain ⟨adK, adV, hS, hR⟩ := vk_Sof (args := args) (s := s) (N := 13) (tm := gl_t) (len := ow_sl) (byt := ow_sb) (A := fun q => s.heap.size ≤ q) (by decide +kernel) (fun i hi => hw i hi _ (by simp [gl_w])) (fun i hi => hw i hi _ (by simp [gl_w])) (fun i hi => hw i hi (Cond.arrayOf (gl_v i) .byte) (by simp [gl_w])) (fun i hi => hw i hi (Cond.eq (.length (gl_v i)) (.int (Int32.ofNat (ow_sl.getD i 0)))) (by simp [gl_w])) (fun i hi j hj => hw i hi (Cond.eq (.elem (gl_v i) (.int (Int32.ofNat j))) (.int ((ow_sb.getD i []).getD j 0))) (List.mem_append_right _ (List.mem_map.mpr ⟨j, List.mem_range.mpr hj, rfl⟩))) (fun i j hi hj hij => by
    rcases Nat.lt_or_gt_of_ne hij with h | h
    · exact Or.inl (hq _ (gl_nq_in _ (List.mem_flatMap.mpr ⟨j, List.mem_range.mpr hj, List.mem_map.mpr ⟨i, List.mem_range.mpr h, rfl⟩⟩)))
    · exact Or.inr (hq _ (gl_nq_in _ (List.mem_flatMap.mpr ⟨i, List.mem_range.mpr hi, List.mem_map.mpr ⟨j, List.mem_range.mpr h, rfl⟩⟩)))) hA
  obtain ⟨tk, ht, hT⟩ := va_Tof (args := args) (s := s) (tm := gl_kt) (ty := .int) (N := 6) (f := fun j => .int (ow_ka j)) (A := fun q => s.heap.size ≤ q) (by decide) (hq _ (gl_ks_in _ (by simp [gl_ks]))) (va_eqt (hq (Cond.eq (.length gl_kt) (.int (Int32.ofNat 6))) (gl_ks_in _ (List.mem_append_left _ (List.mem_cons_of_mem _ List.mem_cons_self))))) (fun j hj => va_eqt (hq (Cond.eq (.elem gl_kt (.int (Int32.ofNat j))) (.int (ow_ka j))) (gl_ks_in _ (List.mem_append_right _ (List.mem_map.mpr ⟨j, List.mem_range.mpr hj, rfl⟩))))) hA
  refine ⟨(D, cA, fun _ => 0, adK, adV, tk), ⟨hK _ _ _ _, ⟨fun w hw => va_Nw.of (ow_isN_on (ow_nw_is w hw)) (hts w (gl_nw w hw)), fun w hw => va_Nw.of (ow_isN_on (ow_nw2_is w hw)) (hts w (gl_nw2 w hw))⟩, fun i hi => vk_R.of (hts _ (gl_sr_in _ (List.mem_map.mpr ⟨i, List.mem_range.mpr hi, rfl⟩))) (hR i hi), va_AO.of (hts _ (lw_ch_in 1 _ (List.mem_of_getElem? (i := 44) rfl))), va_AO.of (hts _ (lw_ch_in 1 _ (List.mem_of_getElem? (i := 133) rfl))), va_AO.of (hts _ (lw_ch_in 1 _ (List.mem_of_getElem? (i := 104) rfl)))⟩, hS, va_Zof (hts _ (lw_ch_in 1 _ (List.mem_of_getElem? (i := 216) rfl))) (hts _ (lw_ch_in 1 _ (List.mem_of_getElem? (i := 10) rfl))) (va_eqi (hq _ gl_z1)) hA, va_Zqof (hts _ (lw_ch_in 1 _ (List.mem_of_getElem? (i := 232) rfl))) (hts _ (lw_ch_in 1 _ (List.mem_of_getElem? (i := 12) rfl))) (hq _ gl_z2) hA, va_Zof (hts _ (lw_ch_in 4 _ (List.mem_of_getElem? (i := 146) rfl))) (hts _ (lw_ch_in 1 _ (List.mem_of_getElem? (i := 1) rfl))) ht hA, hT⟩
