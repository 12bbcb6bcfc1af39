set_option maxHeartbeats 4000000 in
set_option maxRecDepth 100000 in
theorem c_X4_init (l : Launch) (D : va_G) (cI cJ cL : ClassId) (sz : Nat) (h : Nat) (cap : Nat) (hc : cap ≤ 1000) :
    Met l yX4_init wsX4_init { frames := 1, cells := 1, slots := cap, locals := 12 } (va_Pc [.ref h, .int (nI cap)] (Wd D [(cI, .int), (cJ, .array .int), (cL, .long)] [(h, .inr (4, [.null, .int 0]))] sz))
      (va_Qv (fun (u : Nat) => True) (fun u => Wa D [(cI, .int), (cJ, .array .int), (cL, .long)] (va_A [(h, .inr (4, [.null, .int 0]))] sz) ([(h, .inr (4, [.ref u, .int (nI 0)])), (u, .inl (cI, cap, .inl (fun _ => 0)))])) (va_A [(h, .inr (4, [.null, .int 0]))] sz)) 1 cap (va_A [(h, .inr (4, [.null, .int 0]))] sz) := by
  refine Met.ofW (cc := cX4_init) (maxL := 2) (ret := none) (by decide) rfl ?_
  intro p e s m args below meth c s₁ B hml hv
  obtain ⟨rfl, hsz, hP, hK, hD0⟩ := hv
  have hx := B.exec
  have hb := B.bytes
  have hr := B.returns
  have hts := atoms_spec (ws := wsX4_init) B.pre
  have hown : s.vm.findClass RX4 = some m.cls := findClass_of_methodNamed B.named
  have hlocks := B.notSynchronized
  have hin : meth.name = "<init>" := (name_of_methodNamed B.named B.method).1
  subst hsz
  have hD := hD0.self (sz := s.heap.size)
  generalize hAe : va_A [(h, .inr (4, [.null, .int 0]))] s.heap.size = A at hD ⊢
  have hA : ∀ q : Nat, s.heap.size ≤ q → A q := fun q h => by rw [← hAe]; exact Or.inr h
  have hl := lv_entry ([.ref h, .int (nI cap)]) (n := 2) (Nat.le_of_ble_eq_true rfl)
  rw [lg_entry_eq]
  generalize (lg_sl ([.ref h, .int (nI cap)]) ++ List.replicate (2 - (lg_sl ([.ref h, .int (nI cap)])).length) Slot.unset).toArray = ls at hl ⊢
  have hl : lv_has ls 2 [(0, .ref h), (1, .int (nI cap))] := hl
  refine hv_start (A := A) (ws := [(h, .inr (4, [.null, .int 0]))]) hP (fun H locs hP hS => ?_)
  have w_0 := hts (.methodLink RX4 1 objectInit) (by decide +kernel)
  have w_1 := hts (.instanceMethod objectInit) (by decide +kernel)
  have w_2 := hts (.code objectInit ⟨#[0xb1]⟩ 1 none) (by decide +kernel)
  have w_3 := hts (.arrayClass .int) (by decide +kernel)
  have w_4 := hts (.fieldLink RX4 7 "TextAligner$SignRow" "signs" "[I") (by decide +kernel)
  have i_X4 : ∀ w ∈ wsX40, w ∈ wsX4_init := by decide +kernel
  have w_6 := hts (.fieldLink RX4 13 "TextAligner$SignRow" "size" "I") (by decide +kernel)
  refine lv_aload_n hx hb dX4_init_0 rfl (lv_at hl 0 rfl) ?_
  refine W.objInit hx hb hown w_0 w_1 w_2 rfl (by rw [hml]; exact hl.1) rfl dX4_init_1 (Nat.le_of_ble_eq_true rfl) (Nat.le_of_ble_eq_true rfl) ?_
  refine W.eq (g2 := F0 m 4 ls []) rfl ?_
  refine lv_aload_n hx hb dX4_init_4 rfl (lv_at hl 0 rfl) ?_
  refine lv_iload_n hx hb dX4_init_5 rfl (lv_at hl 1 rfl) ?_
  refine va_newI hx hb w_3 hK 0 rfl hP hD hS hA (k := cap) (by omega) (show 0 + 1 ≤ 1 by omega) (show 0 + cap ≤ cap by omega) dX4_init_6 (fun q_1 H hP hD hS => ?_)
  have hP : va_P D vwCl [(h, .inr (4, [.null, .int 0])), (q_1, .inl (cI, cap, .inl (fun _ => 0)))] H := hP
  have hD : va_D A [(h, .inr (4, [.null, .int 0])), (q_1, .inl (cI, cap, .inl (fun _ => 0)))] := hD
  refine va_putF (D := D) (ci := 4) (v := .ref q_1) (ty := (.array .int)) (C := RX4) (T := TX4) (N := 2) hx hb hts i_X4 tyX4 tyX4_ok nmX4 hown hK hP hD hS 0 rfl rfl 0 (by decide) w_4 (fun _ h9 => h9) rfl hin rfl (by decide +kernel) rfl rfl (Nat.le_of_ble_eq_true rfl) dX4_init_8 (fun H locs hP hD hS => ?_)
  have hP : va_P D vwCl [(h, .inr (4, [.ref q_1, .int 0])), (q_1, .inl (cI, cap, .inl (fun _ => 0)))] H := hP
  have hD : va_D A [(h, .inr (4, [.ref q_1, .int 0])), (q_1, .inl (cI, cap, .inl (fun _ => 0)))] := hD
  refine lv_aload_n hx hb dX4_init_11 rfl (lv_at hl 0 rfl) ?_
  refine lv_iconst (v := 0) hx hb dX4_init_12 (by decide) ?_
  refine W.eq (g2 := F0 m 13 ls [.int (nI 0), .ref h]) rfl ?_
  refine va_put (D := D) (ci := 4) (v := .int (nI 0)) (ty := .int) (C := RX4) (T := TX4) (N := 2) hx hb hts i_X4 tyX4 tyX4_ok nmX4 hown hK hP hD hS 0 rfl rfl 1 (by decide) w_6 (fun _ h9 => h9) rfl (by decide +kernel) rfl rfl (Nat.le_of_ble_eq_true rfl) dX4_init_13 (fun H locs hP hD hS => ?_)
  have hP : va_P D vwCl [(h, .inr (4, [.ref q_1, .int (nI 0)])), (q_1, .inl (cI, cap, .inl (fun _ => 0)))] H := hP
  have hD : va_D A [(h, .inr (4, [.ref q_1, .int (nI 0)])), (q_1, .inl (cI, cap, .inl (fun _ => 0)))] := hD
  refine W.widen (k := 1) (n := cap) (by omega) (by omega) ?_
  exact fin_v q_1 hx hb hr hlocks dX4_init_16 hK hS hP hD trivial

set_option maxHeartbeats 4000000 in
set_option maxRecDepth 100000 in
theorem c_X0_init (l : Launch) (D : va_G) (cI cJ cL : ClassId) (sz : Nat) (g : Nat)  :
    Met l yX0_init wsX0_init { frames := 2, cells := 9, slots := 1659, locals := 33 } (va_Pc [.ref g] (Wd D [(cI, .int), (cJ, .array .int), (cL, .long)] [(g, .inr (0, [.null, .null, .null, .null, .null, .int 0, .null, .null]))] sz))
      (va_Qv (fun (u : Nat × Nat × Nat × Nat × Nat × Nat × Nat × Nat × Nat) => True) (fun u => Wa D [(cI, .int), (cJ, .array .int), (cL, .long)] (va_A [(g, .inr (0, [.null, .null, .null, .null, .null, .int 0, .null, .null]))] sz) ([(g, .inr (0, [.ref u.1, .ref u.2.2.1, .ref u.2.2.2.2.1, .ref u.2.2.2.2.2.1, .ref u.2.2.2.2.2.2.1, .int (nI 0), .ref u.2.2.2.2.2.2.2.1, .ref u.2.2.2.2.2.2.2.2])), (u.1, .inr (4, [.ref u.2.1, .int (nI 0)])), (u.2.1, .inl (cI, 150, .inl (fun _ => 0))), (u.2.2.1, .inr (4, [.ref u.2.2.2.1, .int (nI 0)])), (u.2.2.2.1, .inl (cI, 300, .inl (fun _ => 0))), (u.2.2.2.2.1, .inl (cI, 301, .inl (fun _ => 0))), (u.2.2.2.2.2.1, .inl (cI, 301, .inl (fun _ => 0))), (u.2.2.2.2.2.2.1, .inl (cI, 301, .inl (fun _ => 0))), (u.2.2.2.2.2.2.2.1, .inl (cI, 151, .inl (fun _ => 0))), (u.2.2.2.2.2.2.2.2, .inl (cI, 151, .inl (fun _ => 0)))])) (va_A [(g, .inr (0, [.null, .null, .null, .null, .null, .int 0, .null, .null]))] sz)) 9 1659 (va_A [(g, .inr (0, [.null, .null, .null, .null, .null, .int 0, .null, .null]))] sz) := by
  refine Met.ofW (cc := cX0_init) (maxL := 1) (ret := none) (by decide) rfl ?_
  intro p e s m args below meth c s₁ B hml hv
  obtain ⟨rfl, hsz, hP, hK, hD0⟩ := hv
  have hx := B.exec
  have hb := B.bytes
  have hr := B.returns
  have hts := atoms_spec (ws := wsX0_init) B.pre
  have hown : s.vm.findClass RX0 = some m.cls := findClass_of_methodNamed B.named
  have hlocks := B.notSynchronized
  have hin : meth.name = "<init>" := (name_of_methodNamed B.named B.method).1
  subst hsz
  have hD := hD0.self (sz := s.heap.size)
  generalize hAe : va_A [(g, .inr (0, [.null, .null, .null, .null, .null, .int 0, .null, .null]))] s.heap.size = A at hD ⊢
  have hA : ∀ q : Nat, s.heap.size ≤ q → A q := fun q h => by rw [← hAe]; exact Or.inr h
  have hl := lv_entry ([.ref g]) (n := 1) (Nat.le_of_ble_eq_true rfl)
  rw [lg_entry_eq]
  generalize (lg_sl ([.ref g]) ++ List.replicate (1 - (lg_sl ([.ref g])).length) Slot.unset).toArray = ls at hl ⊢
  have hl : lv_has ls 1 [(0, .ref g)] := hl
  refine hv_start (A := A) (ws := [(g, .inr (0, [.null, .null, .null, .null, .null, .int 0, .null, .null]))]) hP (fun H locs hP hS => ?_)
  have w_0 := hts (.methodLink RX0 3 objectInit) (by decide +kernel)
  have w_1 := hts (.instanceMethod objectInit) (by decide +kernel)
  have w_2 := hts (.code objectInit ⟨#[0xb1]⟩ 1 none) (by decide +kernel)
  have w_3 := hts (.classLink RX0 9 RX4) (by decide +kernel)
  have w_4 := hts (.instantiable RX4 2) (by decide +kernel)
  have w_5 := hts (.initialized RX4) (by decide +kernel)
  have i_X4 : ∀ w ∈ wsX40, w ∈ wsX0_init := by decide +kernel
  have w_7 := hts (.methodLink RX0 11 yX4_init) (by decide +kernel)
  have w_8 := hts (.instanceMethod yX4_init) (by decide +kernel)
  have w_9 := hts (.fieldLink RX0 14 "TextAligner$Findings" "pattern" "LTextAligner$SignRow;") (by decide +kernel)
  have i_X0 : ∀ w ∈ wsX00, w ∈ wsX0_init := by decide +kernel
  have w_11 := hts (.fieldLink RX0 20 "TextAligner$Findings" "text" "LTextAligner$SignRow;") (by decide +kernel)
  have w_12 := hts (.arrayClass .int) (by decide +kernel)
  have w_13 := hts (.fieldLink RX0 23 "TextAligner$Findings" "ends" "[I") (by decide +kernel)
  have w_14 := hts (.fieldLink RX0 27 "TextAligner$Findings" "distances" "[I") (by decide +kernel)
  have w_15 := hts (.fieldLink RX0 30 "TextAligner$Findings" "starts" "[I") (by decide +kernel)
  have w_16 := hts (.fieldLink RX0 33 "TextAligner$Findings" "size" "I") (by decide +kernel)
  have w_17 := hts (.fieldLink RX0 37 "TextAligner$Findings" "nearest" "[I") (by decide +kernel)
  have w_18 := hts (.fieldLink RX0 40 "TextAligner$Findings" "lastStart" "[I") (by decide +kernel)
  refine lv_aload_n hx hb dX0_init_0 rfl (lv_at hl 0 rfl) ?_
  refine W.objInit hx hb hown w_0 w_1 w_2 rfl (by rw [hml]; exact hl.1) rfl dX0_init_1 (Nat.le_of_ble_eq_true rfl) (Nat.le_of_ble_eq_true rfl) ?_
  refine W.eq (g2 := F0 m 4 ls []) rfl ?_
  refine lv_aload_n hx hb dX0_init_4 rfl (lv_at hl 0 rfl) ?_
  refine va_new (ci := 4) (fs := [.null, .int 0]) (C := RX4) (T := TX4) (N := 2) hx hb hts i_X4 tyX4 tyX4_ok hown w_3 w_4 w_5 hK hP hD hS hA rfl (fun j hj => by rcases (show j = 0 ∨ j = 1 by omega) with rfl | rfl <;> rfl) (show 0 + 1 ≤ 9 by omega) (show 0 + 2 ≤ 1659 by omega) dX0_init_5 (fun q_1 H hP hD hS => ?_)
  have hP : va_P D vwCl [(g, .inr (0, [.null, .null, .null, .null, .null, .int 0, .null, .null])), (q_1, .inr (4, [.null, .int 0]))] H := hP
  have hD : va_D A [(g, .inr (0, [.null, .null, .null, .null, .null, .int 0, .null, .null])), (q_1, .inr (4, [.null, .int 0]))] := hD
  refine lv_dup hx hb dX0_init_8 rfl ?_
  refine lv_sipush (v := 150) hx hb dX0_init_9 (by decide) ?_
  refine W.eq (g2 := F0 m 12 ls [.int (nI 150), .ref q_1, .ref q_1, .ref g]) rfl ?_
  have fr := fr_x (wc := [(q_1, .inr (4, [.null, .int 0]))]) (wr := [(g, .inr (0, [.null, .null, .null, .null, .null, .int 0, .null, .null]))]) hP hD hS hA [1] [0] rfl rfl (by decide) (by decide) (by decide)
  refine ci_v (J := fun u => [(g, .inr (0, [.null, .null, .null, .null, .null, .int 0, .null, .null])), (q_1, .inr (4, [.ref u, .int (nI 0)])), (u, .inl (cI, 150, .inl (fun _ => 0)))]) (As := [.int (nI 150)]) (rest := [.ref q_1, .ref g]) ⟨hx, hb, hml, hown, hts⟩ (c_X4_init l D cI cJ cL H.size q_1 150 (by omega)) (cwI 1 hts gX0_init_X4_init rfl rfl rfl w_5 w_7 w_8 rfl (by decide +kernel) ⟨Nat.le_of_ble_eq_true rfl, Nat.le_of_ble_eq_true rfl⟩) hK fr.1 fr.2.1 fr.2.2.1 (fun H1 u hk h1 h2 => fr.2.2.2 _ H1 hk h1 h2) hS rfl hl.1 rfl (Nat.le_of_ble_eq_true rfl) dX0_init_12 ⟨(show 1 + 1 ≤ 9 by omega), (show 2 + 150 ≤ 1659 by omega)⟩ (fun u_2 H locs hw hP hD hS => ?_)
  refine va_putF (D := D) (ci := 0) (v := .ref q_1) (ty := (.object "TextAligner$SignRow")) (C := RX0) (T := TX0) (N := 8) hx hb hts i_X0 tyX0 tyX0_ok nmX0 hown hK hP hD hS 0 rfl rfl 0 (by decide) w_9 (fun _ h9 => h9) rfl hin rfl (by decide +kernel) rfl rfl (Nat.le_of_ble_eq_true rfl) dX0_init_15 (fun H locs hP hD hS => ?_)
  have hP : va_P D vwCl [(g, .inr (0, [.ref q_1, .null, .null, .null, .null, .int 0, .null, .null])), (q_1, .inr (4, [.ref u_2, .int (nI 0)])), (u_2, .inl (cI, 150, .inl (fun _ => 0)))] H := hP
  have hD : va_D A [(g, .inr (0, [.ref q_1, .null, .null, .null, .null, .int 0, .null, .null])), (q_1, .inr (4, [.ref u_2, .int (nI 0)])), (u_2, .inl (cI, 150, .inl (fun _ => 0)))] := hD
  refine lv_aload_n hx hb dX0_init_18 rfl (lv_at hl 0 rfl) ?_
  refine va_new (ci := 4) (fs := [.null, .int 0]) (C := RX4) (T := TX4) (N := 2) hx hb hts i_X4 tyX4 tyX4_ok hown w_3 w_4 w_5 hK hP hD hS hA rfl (fun j hj => by rcases (show j = 0 ∨ j = 1 by omega) with rfl | rfl <;> rfl) (show 2 + 1 ≤ 9 by omega) (show 152 + 2 ≤ 1659 by omega) dX0_init_19 (fun q_3 H hP hD hS => ?_)
  have hP : va_P D vwCl [(g, .inr (0, [.ref q_1, .null, .null, .null, .null, .int 0, .null, .null])), (q_1, .inr (4, [.ref u_2, .int (nI 0)])), (u_2, .inl (cI, 150, .inl (fun _ => 0))), (q_3, .inr (4, [.null, .int 0]))] H := hP
  have hD : va_D A [(g, .inr (0, [.ref q_1, .null, .null, .null, .null, .int 0, .null, .null])), (q_1, .inr (4, [.ref u_2, .int (nI 0)])), (u_2, .inl (cI, 150, .inl (fun _ => 0))), (q_3, .inr (4, [.null, .int 0]))] := hD
  refine lv_dup hx hb dX0_init_22 rfl ?_
  refine lv_sipush (v := 300) hx hb dX0_init_23 (by decide) ?_
  refine W.eq (g2 := F0 m 26 ls [.int (nI 300), .ref q_3, .ref q_3, .ref g]) rfl ?_
  have fr := fr_x (wc := [(q_3, .inr (4, [.null, .int 0]))]) (wr := [(g, .inr (0, [.ref q_1, .null, .null, .null, .null, .int 0, .null, .null])), (q_1, .inr (4, [.ref u_2, .int (nI 0)])), (u_2, .inl (cI, 150, .inl (fun _ => 0)))]) hP hD hS hA [3] [0, 1, 2] rfl rfl (by decide) (by decide) (by decide)
  refine ci_v (J := fun u => [(g, .inr (0, [.ref q_1, .null, .null, .null, .null, .int 0, .null, .null])), (q_1, .inr (4, [.ref u_2, .int (nI 0)])), (u_2, .inl (cI, 150, .inl (fun _ => 0))), (q_3, .inr (4, [.ref u, .int (nI 0)])), (u, .inl (cI, 300, .inl (fun _ => 0)))]) (As := [.int (nI 300)]) (rest := [.ref q_3, .ref g]) ⟨hx, hb, hml, hown, hts⟩ (c_X4_init l D cI cJ cL H.size q_3 300 (by omega)) (cwI 1 hts gX0_init_X4_init rfl rfl rfl w_5 w_7 w_8 rfl (by decide +kernel) ⟨Nat.le_of_ble_eq_true rfl, Nat.le_of_ble_eq_true rfl⟩) hK fr.1 fr.2.1 fr.2.2.1 (fun H1 u hk h1 h2 => fr.2.2.2 _ H1 hk h1 h2) hS rfl hl.1 rfl (Nat.le_of_ble_eq_true rfl) dX0_init_26 ⟨(show 3 + 1 ≤ 9 by omega), (show 154 + 300 ≤ 1659 by omega)⟩ (fun u_4 H locs hw hP hD hS => ?_)
  refine va_putF (D := D) (ci := 0) (v := .ref q_3) (ty := (.object "TextAligner$SignRow")) (C := RX0) (T := TX0) (N := 8) hx hb hts i_X0 tyX0 tyX0_ok nmX0 hown hK hP hD hS 0 rfl rfl 1 (by decide) w_11 (fun _ h9 => h9) rfl hin rfl (by decide +kernel) rfl rfl (Nat.le_of_ble_eq_true rfl) dX0_init_29 (fun H locs hP hD hS => ?_)
  have hP : va_P D vwCl [(g, .inr (0, [.ref q_1, .ref q_3, .null, .null, .null, .int 0, .null, .null])), (q_1, .inr (4, [.ref u_2, .int (nI 0)])), (u_2, .inl (cI, 150, .inl (fun _ => 0))), (q_3, .inr (4, [.ref u_4, .int (nI 0)])), (u_4, .inl (cI, 300, .inl (fun _ => 0)))] H := hP
  have hD : va_D A [(g, .inr (0, [.ref q_1, .ref q_3, .null, .null, .null, .int 0, .null, .null])), (q_1, .inr (4, [.ref u_2, .int (nI 0)])), (u_2, .inl (cI, 150, .inl (fun _ => 0))), (q_3, .inr (4, [.ref u_4, .int (nI 0)])), (u_4, .inl (cI, 300, .inl (fun _ => 0)))] := hD
  refine lv_aload_n hx hb dX0_init_32 rfl (lv_at hl 0 rfl) ?_
  refine lv_sipush (v := 301) hx hb dX0_init_33 (by decide) ?_
  refine W.eq (g2 := F0 m 36 ls (.int (nI 301) :: [.ref g])) rfl ?_
  refine va_newI hx hb w_12 hK 0 rfl hP hD hS hA (k := 301) (by decide) (show 4 + 1 ≤ 9 by omega) (show 454 + 301 ≤ 1659 by omega) dX0_init_36 (fun q_5 H hP hD hS => ?_)
  have hP : va_P D vwCl [(g, .inr (0, [.ref q_1, .ref q_3, .null, .null, .null, .int 0, .null, .null])), (q_1, .inr (4, [.ref u_2, .int (nI 0)])), (u_2, .inl (cI, 150, .inl (fun _ => 0))), (q_3, .inr (4, [.ref u_4, .int (nI 0)])), (u_4, .inl (cI, 300, .inl (fun _ => 0))), (q_5, .inl (cI, 301, .inl (fun _ => 0)))] H := hP
  have hD : va_D A [(g, .inr (0, [.ref q_1, .ref q_3, .null, .null, .null, .int 0, .null, .null])), (q_1, .inr (4, [.ref u_2, .int (nI 0)])), (u_2, .inl (cI, 150, .inl (fun _ => 0))), (q_3, .inr (4, [.ref u_4, .int (nI 0)])), (u_4, .inl (cI, 300, .inl (fun _ => 0))), (q_5, .inl (cI, 301, .inl (fun _ => 0)))] := hD
  refine va_putF (D := D) (ci := 0) (v := .ref q_5) (ty := (.array .int)) (C := RX0) (T := TX0) (N := 8) hx hb hts i_X0 tyX0 tyX0_ok nmX0 hown hK hP hD hS 0 rfl rfl 2 (by decide) w_13 (fun _ h9 => h9) rfl hin rfl (by decide +kernel) rfl rfl (Nat.le_of_ble_eq_true rfl) dX0_init_38 (fun H locs hP hD hS => ?_)
  have hP : va_P D vwCl [(g, .inr (0, [.ref q_1, .ref q_3, .ref q_5, .null, .null, .int 0, .null, .null])), (q_1, .inr (4, [.ref u_2, .int (nI 0)])), (u_2, .inl (cI, 150, .inl (fun _ => 0))), (q_3, .inr (4, [.ref u_4, .int (nI 0)])), (u_4, .inl (cI, 300, .inl (fun _ => 0))), (q_5, .inl (cI, 301, .inl (fun _ => 0)))] H := hP
  have hD : va_D A [(g, .inr (0, [.ref q_1, .ref q_3, .ref q_5, .null, .null, .int 0, .null, .null])), (q_1, .inr (4, [.ref u_2, .int (nI 0)])), (u_2, .inl (cI, 150, .inl (fun _ => 0))), (q_3, .inr (4, [.ref u_4, .int (nI 0)])), (u_4, .inl (cI, 300, .inl (fun _ => 0))), (q_5, .inl (cI, 301, .inl (fun _ => 0)))] := hD
  refine lv_aload_n hx hb dX0_init_41 rfl (lv_at hl 0 rfl) ?_
  refine lv_sipush (v := 301) hx hb dX0_init_42 (by decide) ?_
  refine W.eq (g2 := F0 m 45 ls (.int (nI 301) :: [.ref g])) rfl ?_
  refine va_newI hx hb w_12 hK 0 rfl hP hD hS hA (k := 301) (by decide) (show 5 + 1 ≤ 9 by omega) (show 755 + 301 ≤ 1659 by omega) dX0_init_45 (fun q_6 H hP hD hS => ?_)
  have hP : va_P D vwCl [(g, .inr (0, [.ref q_1, .ref q_3, .ref q_5, .null, .null, .int 0, .null, .null])), (q_1, .inr (4, [.ref u_2, .int (nI 0)])), (u_2, .inl (cI, 150, .inl (fun _ => 0))), (q_3, .inr (4, [.ref u_4, .int (nI 0)])), (u_4, .inl (cI, 300, .inl (fun _ => 0))), (q_5, .inl (cI, 301, .inl (fun _ => 0))), (q_6, .inl (cI, 301, .inl (fun _ => 0)))] H := hP
  have hD : va_D A [(g, .inr (0, [.ref q_1, .ref q_3, .ref q_5, .null, .null, .int 0, .null, .null])), (q_1, .inr (4, [.ref u_2, .int (nI 0)])), (u_2, .inl (cI, 150, .inl (fun _ => 0))), (q_3, .inr (4, [.ref u_4, .int (nI 0)])), (u_4, .inl (cI, 300, .inl (fun _ => 0))), (q_5, .inl (cI, 301, .inl (fun _ => 0))), (q_6, .inl (cI, 301, .inl (fun _ => 0)))] := hD
  refine va_putF (D := D) (ci := 0) (v := .ref q_6) (ty := (.array .int)) (C := RX0) (T := TX0) (N := 8) hx hb hts i_X0 tyX0 tyX0_ok nmX0 hown hK hP hD hS 0 rfl rfl 3 (by decide) w_14 (fun _ h9 => h9) rfl hin rfl (by decide +kernel) rfl rfl (Nat.le_of_ble_eq_true rfl) dX0_init_47 (fun H locs hP hD hS => ?_)
  have hP : va_P D vwCl [(g, .inr (0, [.ref q_1, .ref q_3, .ref q_5, .ref q_6, .null, .int 0, .null, .null])), (q_1, .inr (4, [.ref u_2, .int (nI 0)])), (u_2, .inl (cI, 150, .inl (fun _ => 0))), (q_3, .inr (4, [.ref u_4, .int (nI 0)])), (u_4, .inl (cI, 300, .inl (fun _ => 0))), (q_5, .inl (cI, 301, .inl (fun _ => 0))), (q_6, .inl (cI, 301, .inl (fun _ => 0)))] H := hP
  have hD : va_D A [(g, .inr (0, [.ref q_1, .ref q_3, .ref q_5, .ref q_6, .null, .int 0, .null, .null])), (q_1, .inr (4, [.ref u_2, .int (nI 0)])), (u_2, .inl (cI, 150, .inl (fun _ => 0))), (q_3, .inr (4, [.ref u_4, .int (nI 0)])), (u_4, .inl (cI, 300, .inl (fun _ => 0))), (q_5, .inl (cI, 301, .inl (fun _ => 0))), (q_6, .inl (cI, 301, .inl (fun _ => 0)))] := hD
  refine lv_aload_n hx hb dX0_init_50 rfl (lv_at hl 0 rfl) ?_
  refine lv_sipush (v := 301) hx hb dX0_init_51 (by decide) ?_
  refine W.eq (g2 := F0 m 54 ls (.int (nI 301) :: [.ref g])) rfl ?_
  refine va_newI hx hb w_12 hK 0 rfl hP hD hS hA (k := 301) (by decide) (show 6 + 1 ≤ 9 by omega) (show 1056 + 301 ≤ 1659 by omega) dX0_init_54 (fun q_7 H hP hD hS => ?_)
  have hP : va_P D vwCl [(g, .inr (0, [.ref q_1, .ref q_3, .ref q_5, .ref q_6, .null, .int 0, .null, .null])), (q_1, .inr (4, [.ref u_2, .int (nI 0)])), (u_2, .inl (cI, 150, .inl (fun _ => 0))), (q_3, .inr (4, [.ref u_4, .int (nI 0)])), (u_4, .inl (cI, 300, .inl (fun _ => 0))), (q_5, .inl (cI, 301, .inl (fun _ => 0))), (q_6, .inl (cI, 301, .inl (fun _ => 0))), (q_7, .inl (cI, 301, .inl (fun _ => 0)))] H := hP
  have hD : va_D A [(g, .inr (0, [.ref q_1, .ref q_3, .ref q_5, .ref q_6, .null, .int 0, .null, .null])), (q_1, .inr (4, [.ref u_2, .int (nI 0)])), (u_2, .inl (cI, 150, .inl (fun _ => 0))), (q_3, .inr (4, [.ref u_4, .int (nI 0)])), (u_4, .inl (cI, 300, .inl (fun _ => 0))), (q_5, .inl (cI, 301, .inl (fun _ => 0))), (q_6, .inl (cI, 301, .inl (fun _ => 0))), (q_7, .inl (cI, 301, .inl (fun _ => 0)))] := hD
  refine va_putF (D := D) (ci := 0) (v := .ref q_7) (ty := (.array .int)) (C := RX0) (T := TX0) (N := 8) hx hb hts i_X0 tyX0 tyX0_ok nmX0 hown hK hP hD hS 0 rfl rfl 4 (by decide) w_15 (fun _ h9 => h9) rfl hin rfl (by decide +kernel) rfl rfl (Nat.le_of_ble_eq_true rfl) dX0_init_56 (fun H locs hP hD hS => ?_)
  have hP : va_P D vwCl [(g, .inr (0, [.ref q_1, .ref q_3, .ref q_5, .ref q_6, .ref q_7, .int 0, .null, .null])), (q_1, .inr (4, [.ref u_2, .int (nI 0)])), (u_2, .inl (cI, 150, .inl (fun _ => 0))), (q_3, .inr (4, [.ref u_4, .int (nI 0)])), (u_4, .inl (cI, 300, .inl (fun _ => 0))), (q_5, .inl (cI, 301, .inl (fun _ => 0))), (q_6, .inl (cI, 301, .inl (fun _ => 0))), (q_7, .inl (cI, 301, .inl (fun _ => 0)))] H := hP
  have hD : va_D A [(g, .inr (0, [.ref q_1, .ref q_3, .ref q_5, .ref q_6, .ref q_7, .int 0, .null, .null])), (q_1, .inr (4, [.ref u_2, .int (nI 0)])), (u_2, .inl (cI, 150, .inl (fun _ => 0))), (q_3, .inr (4, [.ref u_4, .int (nI 0)])), (u_4, .inl (cI, 300, .inl (fun _ => 0))), (q_5, .inl (cI, 301, .inl (fun _ => 0))), (q_6, .inl (cI, 301, .inl (fun _ => 0))), (q_7, .inl (cI, 301, .inl (fun _ => 0)))] := hD
  refine lv_aload_n hx hb dX0_init_59 rfl (lv_at hl 0 rfl) ?_
  refine lv_iconst (v := 0) hx hb dX0_init_60 (by decide) ?_
  refine W.eq (g2 := F0 m 61 ls [.int (nI 0), .ref g]) rfl ?_
  refine va_put (D := D) (ci := 0) (v := .int (nI 0)) (ty := .int) (C := RX0) (T := TX0) (N := 8) hx hb hts i_X0 tyX0 tyX0_ok nmX0 hown hK hP hD hS 0 rfl rfl 5 (by decide) w_16 (fun _ h9 => h9) rfl (by decide +kernel) rfl rfl (Nat.le_of_ble_eq_true rfl) dX0_init_61 (fun H locs hP hD hS => ?_)
  have hP : va_P D vwCl [(g, .inr (0, [.ref q_1, .ref q_3, .ref q_5, .ref q_6, .ref q_7, .int (nI 0), .null, .null])), (q_1, .inr (4, [.ref u_2, .int (nI 0)])), (u_2, .inl (cI, 150, .inl (fun _ => 0))), (q_3, .inr (4, [.ref u_4, .int (nI 0)])), (u_4, .inl (cI, 300, .inl (fun _ => 0))), (q_5, .inl (cI, 301, .inl (fun _ => 0))), (q_6, .inl (cI, 301, .inl (fun _ => 0))), (q_7, .inl (cI, 301, .inl (fun _ => 0)))] H := hP
  have hD : va_D A [(g, .inr (0, [.ref q_1, .ref q_3, .ref q_5, .ref q_6, .ref q_7, .int (nI 0), .null, .null])), (q_1, .inr (4, [.ref u_2, .int (nI 0)])), (u_2, .inl (cI, 150, .inl (fun _ => 0))), (q_3, .inr (4, [.ref u_4, .int (nI 0)])), (u_4, .inl (cI, 300, .inl (fun _ => 0))), (q_5, .inl (cI, 301, .inl (fun _ => 0))), (q_6, .inl (cI, 301, .inl (fun _ => 0))), (q_7, .inl (cI, 301, .inl (fun _ => 0)))] := hD
  refine lv_aload_n hx hb dX0_init_64 rfl (lv_at hl 0 rfl) ?_
  refine lv_sipush (v := 151) hx hb dX0_init_65 (by decide) ?_
  refine W.eq (g2 := F0 m 68 ls (.int (nI 151) :: [.ref g])) rfl ?_
  refine va_newI hx hb w_12 hK 0 rfl hP hD hS hA (k := 151) (by decide) (show 7 + 1 ≤ 9 by omega) (show 1357 + 151 ≤ 1659 by omega) dX0_init_68 (fun q_8 H hP hD hS => ?_)
  have hP : va_P D vwCl [(g, .inr (0, [.ref q_1, .ref q_3, .ref q_5, .ref q_6, .ref q_7, .int (nI 0), .null, .null])), (q_1, .inr (4, [.ref u_2, .int (nI 0)])), (u_2, .inl (cI, 150, .inl (fun _ => 0))), (q_3, .inr (4, [.ref u_4, .int (nI 0)])), (u_4, .inl (cI, 300, .inl (fun _ => 0))), (q_5, .inl (cI, 301, .inl (fun _ => 0))), (q_6, .inl (cI, 301, .inl (fun _ => 0))), (q_7, .inl (cI, 301, .inl (fun _ => 0))), (q_8, .inl (cI, 151, .inl (fun _ => 0)))] H := hP
  have hD : va_D A [(g, .inr (0, [.ref q_1, .ref q_3, .ref q_5, .ref q_6, .ref q_7, .int (nI 0), .null, .null])), (q_1, .inr (4, [.ref u_2, .int (nI 0)])), (u_2, .inl (cI, 150, .inl (fun _ => 0))), (q_3, .inr (4, [.ref u_4, .int (nI 0)])), (u_4, .inl (cI, 300, .inl (fun _ => 0))), (q_5, .inl (cI, 301, .inl (fun _ => 0))), (q_6, .inl (cI, 301, .inl (fun _ => 0))), (q_7, .inl (cI, 301, .inl (fun _ => 0))), (q_8, .inl (cI, 151, .inl (fun _ => 0)))] := hD
  refine va_putF (D := D) (ci := 0) (v := .ref q_8) (ty := (.array .int)) (C := RX0) (T := TX0) (N := 8) hx hb hts i_X0 tyX0 tyX0_ok nmX0 hown hK hP hD hS 0 rfl rfl 6 (by decide) w_17 (fun _ h9 => h9) rfl hin rfl (by decide +kernel) rfl rfl (Nat.le_of_ble_eq_true rfl) dX0_init_70 (fun H locs hP hD hS => ?_)
  have hP : va_P D vwCl [(g, .inr (0, [.ref q_1, .ref q_3, .ref q_5, .ref q_6, .ref q_7, .int (nI 0), .ref q_8, .null])), (q_1, .inr (4, [.ref u_2, .int (nI 0)])), (u_2, .inl (cI, 150, .inl (fun _ => 0))), (q_3, .inr (4, [.ref u_4, .int (nI 0)])), (u_4, .inl (cI, 300, .inl (fun _ => 0))), (q_5, .inl (cI, 301, .inl (fun _ => 0))), (q_6, .inl (cI, 301, .inl (fun _ => 0))), (q_7, .inl (cI, 301, .inl (fun _ => 0))), (q_8, .inl (cI, 151, .inl (fun _ => 0)))] H := hP
  have hD : va_D A [(g, .inr (0, [.ref q_1, .ref q_3, .ref q_5, .ref q_6, .ref q_7, .int (nI 0), .ref q_8, .null])), (q_1, .inr (4, [.ref u_2, .int (nI 0)])), (u_2, .inl (cI, 150, .inl (fun _ => 0))), (q_3, .inr (4, [.ref u_4, .int (nI 0)])), (u_4, .inl (cI, 300, .inl (fun _ => 0))), (q_5, .inl (cI, 301, .inl (fun _ => 0))), (q_6, .inl (cI, 301, .inl (fun _ => 0))), (q_7, .inl (cI, 301, .inl (fun _ => 0))), (q_8, .inl (cI, 151, .inl (fun _ => 0)))] := hD
  refine lv_aload_n hx hb dX0_init_73 rfl (lv_at hl 0 rfl) ?_
  refine lv_sipush (v := 151) hx hb dX0_init_74 (by decide) ?_
  refine W.eq (g2 := F0 m 77 ls (.int (nI 151) :: [.ref g])) rfl ?_
  refine va_newI hx hb w_12 hK 0 rfl hP hD hS hA (k := 151) (by decide) (show 8 + 1 ≤ 9 by omega) (show 1508 + 151 ≤ 1659 by omega) dX0_init_77 (fun q_9 H hP hD hS => ?_)
  have hP : va_P D vwCl [(g, .inr (0, [.ref q_1, .ref q_3, .ref q_5, .ref q_6, .ref q_7, .int (nI 0), .ref q_8, .null])), (q_1, .inr (4, [.ref u_2, .int (nI 0)])), (u_2, .inl (cI, 150, .inl (fun _ => 0))), (q_3, .inr (4, [.ref u_4, .int (nI 0)])), (u_4, .inl (cI, 300, .inl (fun _ => 0))), (q_5, .inl (cI, 301, .inl (fun _ => 0))), (q_6, .inl (cI, 301, .inl (fun _ => 0))), (q_7, .inl (cI, 301, .inl (fun _ => 0))), (q_8, .inl (cI, 151, .inl (fun _ => 0))), (q_9, .inl (cI, 151, .inl (fun _ => 0)))] H := hP
  have hD : va_D A [(g, .inr (0, [.ref q_1, .ref q_3, .ref q_5, .ref q_6, .ref q_7, .int (nI 0), .ref q_8, .null])), (q_1, .inr (4, [.ref u_2, .int (nI 0)])), (u_2, .inl (cI, 150, .inl (fun _ => 0))), (q_3, .inr (4, [.ref u_4, .int (nI 0)])), (u_4, .inl (cI, 300, .inl (fun _ => 0))), (q_5, .inl (cI, 301, .inl (fun _ => 0))), (q_6, .inl (cI, 301, .inl (fun _ => 0))), (q_7, .inl (cI, 301, .inl (fun _ => 0))), (q_8, .inl (cI, 151, .inl (fun _ => 0))), (q_9, .inl (cI, 151, .inl (fun _ => 0)))] := hD
  refine va_putF (D := D) (ci := 0) (v := .ref q_9) (ty := (.array .int)) (C := RX0) (T := TX0) (N := 8) hx hb hts i_X0 tyX0 tyX0_ok nmX0 hown hK hP hD hS 0 rfl rfl 7 (by decide) w_18 (fun _ h9 => h9) rfl hin rfl (by decide +kernel) rfl rfl (Nat.le_of_ble_eq_true rfl) dX0_init_79 (fun H locs hP hD hS => ?_)
  have hP : va_P D vwCl [(g, .inr (0, [.ref q_1, .ref q_3, .ref q_5, .ref q_6, .ref q_7, .int (nI 0), .ref q_8, .ref q_9])), (q_1, .inr (4, [.ref u_2, .int (nI 0)])), (u_2, .inl (cI, 150, .inl (fun _ => 0))), (q_3, .inr (4, [.ref u_4, .int (nI 0)])), (u_4, .inl (cI, 300, .inl (fun _ => 0))), (q_5, .inl (cI, 301, .inl (fun _ => 0))), (q_6, .inl (cI, 301, .inl (fun _ => 0))), (q_7, .inl (cI, 301, .inl (fun _ => 0))), (q_8, .inl (cI, 151, .inl (fun _ => 0))), (q_9, .inl (cI, 151, .inl (fun _ => 0)))] H := hP
  have hD : va_D A [(g, .inr (0, [.ref q_1, .ref q_3, .ref q_5, .ref q_6, .ref q_7, .int (nI 0), .ref q_8, .ref q_9])), (q_1, .inr (4, [.ref u_2, .int (nI 0)])), (u_2, .inl (cI, 150, .inl (fun _ => 0))), (q_3, .inr (4, [.ref u_4, .int (nI 0)])), (u_4, .inl (cI, 300, .inl (fun _ => 0))), (q_5, .inl (cI, 301, .inl (fun _ => 0))), (q_6, .inl (cI, 301, .inl (fun _ => 0))), (q_7, .inl (cI, 301, .inl (fun _ => 0))), (q_8, .inl (cI, 151, .inl (fun _ => 0))), (q_9, .inl (cI, 151, .inl (fun _ => 0)))] := hD
  refine W.widen (k := 9) (n := 1659) (by omega) (by omega) ?_
  exact fin_v (q_1, u_2, q_3, u_4, q_5, q_6, q_7, q_8, q_9) hx hb hr hlocks dX0_init_82 hK hS (hP.sub [0, 1, 2, 3, 4, 5, 6, 7, 8, 9] rfl) (hD.sub [0, 1, 2, 3, 4, 5, 6, 7, 8, 9] (by decide) rfl) trivial

set_option maxHeartbeats 4000000 in
set_option maxRecDepth 100000 in
theorem c_X1_init (l : Launch) (D : va_G) (cI cJ cL : ClassId) (sz : Nat) (fo : Nat)  :
    Met l yX1_init wsX1_init { frames := 1, cells := 2, slots := 602, locals := 12 } (va_Pc [.ref fo] (Wd D [(cI, .int), (cJ, .array .int), (cL, .long)] [(fo, .inr (1, [.null, .null, .int 0, .int 0, .int 0]))] sz))
      (va_Qv (fun (u : Nat × Nat) => True) (fun u => Wa D [(cI, .int), (cJ, .array .int), (cL, .long)] (va_A [(fo, .inr (1, [.null, .null, .int 0, .int 0, .int 0]))] sz) ([(fo, .inr (1, [.ref u.1, .ref u.2, .int 0, .int 0, .int 0])), (u.1, .inl (cI, 301, .inl (fun _ => 0))), (u.2, .inl (cI, 301, .inl (fun _ => 0)))])) (va_A [(fo, .inr (1, [.null, .null, .int 0, .int 0, .int 0]))] sz)) 2 602 (va_A [(fo, .inr (1, [.null, .null, .int 0, .int 0, .int 0]))] sz) := by
  refine Met.ofW (cc := cX1_init) (maxL := 1) (ret := none) (by decide) rfl ?_
  intro p e s m args below meth c s₁ B hml hv
  obtain ⟨rfl, hsz, hP, hK, hD0⟩ := hv
  have hx := B.exec
  have hb := B.bytes
  have hr := B.returns
  have hts := atoms_spec (ws := wsX1_init) B.pre
  have hown : s.vm.findClass RX1 = some m.cls := findClass_of_methodNamed B.named
  have hlocks := B.notSynchronized
  have hin : meth.name = "<init>" := (name_of_methodNamed B.named B.method).1
  subst hsz
  have hD := hD0.self (sz := s.heap.size)
  generalize hAe : va_A [(fo, .inr (1, [.null, .null, .int 0, .int 0, .int 0]))] s.heap.size = A at hD ⊢
  have hA : ∀ q : Nat, s.heap.size ≤ q → A q := fun q h => by rw [← hAe]; exact Or.inr h
  have hl := lv_entry ([.ref fo]) (n := 1) (Nat.le_of_ble_eq_true rfl)
  rw [lg_entry_eq]
  generalize (lg_sl ([.ref fo]) ++ List.replicate (1 - (lg_sl ([.ref fo])).length) Slot.unset).toArray = ls at hl ⊢
  have hl : lv_has ls 1 [(0, .ref fo)] := hl
  refine hv_start (A := A) (ws := [(fo, .inr (1, [.null, .null, .int 0, .int 0, .int 0]))]) hP (fun H locs hP hS => ?_)
  have w_0 := hts (.methodLink RX1 3 objectInit) (by decide +kernel)
  have w_1 := hts (.instanceMethod objectInit) (by decide +kernel)
  have w_2 := hts (.code objectInit ⟨#[0xb1]⟩ 1 none) (by decide +kernel)
  have w_3 := hts (.arrayClass .int) (by decide +kernel)
  have w_4 := hts (.fieldLink RX1 9 "TextAligner$Fitting" "fits" "[I") (by decide +kernel)
  have i_X1 : ∀ w ∈ wsX10, w ∈ wsX1_init := by decide +kernel
  have w_6 := hts (.fieldLink RX1 15 "TextAligner$Fitting" "fitsWithGap" "[I") (by decide +kernel)
  have w_7 := hts (.fieldLink RX1 18 "TextAligner$Fitting" "best" "I") (by decide +kernel)
  have w_8 := hts (.fieldLink RX1 22 "TextAligner$Fitting" "bestEndInPattern" "I") (by decide +kernel)
  have w_9 := hts (.fieldLink RX1 25 "TextAligner$Fitting" "bestEndInText" "I") (by decide +kernel)
  refine lv_aload_n hx hb dX1_init_0 rfl (lv_at hl 0 rfl) ?_
  refine W.objInit hx hb hown w_0 w_1 w_2 rfl (by rw [hml]; exact hl.1) rfl dX1_init_1 (Nat.le_of_ble_eq_true rfl) (Nat.le_of_ble_eq_true rfl) ?_
  refine W.eq (g2 := F0 m 4 ls []) rfl ?_
  refine lv_aload_n hx hb dX1_init_4 rfl (lv_at hl 0 rfl) ?_
  refine lv_sipush (v := 301) hx hb dX1_init_5 (by decide) ?_
  refine W.eq (g2 := F0 m 8 ls (.int (nI 301) :: [.ref fo])) rfl ?_
  refine va_newI hx hb w_3 hK 0 rfl hP hD hS hA (k := 301) (by decide) (show 0 + 1 ≤ 2 by omega) (show 0 + 301 ≤ 602 by omega) dX1_init_8 (fun q_1 H hP hD hS => ?_)
  have hP : va_P D vwCl [(fo, .inr (1, [.null, .null, .int 0, .int 0, .int 0])), (q_1, .inl (cI, 301, .inl (fun _ => 0)))] H := hP
  have hD : va_D A [(fo, .inr (1, [.null, .null, .int 0, .int 0, .int 0])), (q_1, .inl (cI, 301, .inl (fun _ => 0)))] := hD
  refine va_putF (D := D) (ci := 1) (v := .ref q_1) (ty := (.array .int)) (C := RX1) (T := TX1) (N := 5) hx hb hts i_X1 tyX1 tyX1_ok nmX1 hown hK hP hD hS 0 rfl rfl 0 (by decide) w_4 (fun _ h9 => h9) rfl hin rfl (by decide +kernel) rfl rfl (Nat.le_of_ble_eq_true rfl) dX1_init_10 (fun H locs hP hD hS => ?_)
  have hP : va_P D vwCl [(fo, .inr (1, [.ref q_1, .null, .int 0, .int 0, .int 0])), (q_1, .inl (cI, 301, .inl (fun _ => 0)))] H := hP
  have hD : va_D A [(fo, .inr (1, [.ref q_1, .null, .int 0, .int 0, .int 0])), (q_1, .inl (cI, 301, .inl (fun _ => 0)))] := hD
  refine lv_aload_n hx hb dX1_init_13 rfl (lv_at hl 0 rfl) ?_
  refine lv_sipush (v := 301) hx hb dX1_init_14 (by decide) ?_
  refine W.eq (g2 := F0 m 17 ls (.int (nI 301) :: [.ref fo])) rfl ?_
  refine va_newI hx hb w_3 hK 0 rfl hP hD hS hA (k := 301) (by decide) (show 1 + 1 ≤ 2 by omega) (show 301 + 301 ≤ 602 by omega) dX1_init_17 (fun q_2 H hP hD hS => ?_)
  have hP : va_P D vwCl [(fo, .inr (1, [.ref q_1, .null, .int 0, .int 0, .int 0])), (q_1, .inl (cI, 301, .inl (fun _ => 0))), (q_2, .inl (cI, 301, .inl (fun _ => 0)))] H := hP
  have hD : va_D A [(fo, .inr (1, [.ref q_1, .null, .int 0, .int 0, .int 0])), (q_1, .inl (cI, 301, .inl (fun _ => 0))), (q_2, .inl (cI, 301, .inl (fun _ => 0)))] := hD
  refine va_putF (D := D) (ci := 1) (v := .ref q_2) (ty := (.array .int)) (C := RX1) (T := TX1) (N := 5) hx hb hts i_X1 tyX1 tyX1_ok nmX1 hown hK hP hD hS 0 rfl rfl 1 (by decide) w_6 (fun _ h9 => h9) rfl hin rfl (by decide +kernel) rfl rfl (Nat.le_of_ble_eq_true rfl) dX1_init_19 (fun H locs hP hD hS => ?_)
  have hP : va_P D vwCl [(fo, .inr (1, [.ref q_1, .ref q_2, .int 0, .int 0, .int 0])), (q_1, .inl (cI, 301, .inl (fun _ => 0))), (q_2, .inl (cI, 301, .inl (fun _ => 0)))] H := hP
  have hD : va_D A [(fo, .inr (1, [.ref q_1, .ref q_2, .int 0, .int 0, .int 0])), (q_1, .inl (cI, 301, .inl (fun _ => 0))), (q_2, .inl (cI, 301, .inl (fun _ => 0)))] := hD
  refine lv_aload_n hx hb dX1_init_22 rfl (lv_at hl 0 rfl) ?_
  refine lv_iconst (v := 0) hx hb dX1_init_23 (by decide) ?_
  refine va_put (D := D) (ci := 1) (v := .int 0) (ty := .int) (C := RX1) (T := TX1) (N := 5) hx hb hts i_X1 tyX1 tyX1_ok nmX1 hown hK hP hD hS 0 rfl rfl 2 (by decide) w_7 (fun _ h9 => h9) rfl (by decide +kernel) rfl rfl (Nat.le_of_ble_eq_true rfl) dX1_init_24 (fun H locs hP hD hS => ?_)
  have hP : va_P D vwCl [(fo, .inr (1, [.ref q_1, .ref q_2, .int 0, .int 0, .int 0])), (q_1, .inl (cI, 301, .inl (fun _ => 0))), (q_2, .inl (cI, 301, .inl (fun _ => 0)))] H := hP
  have hD : va_D A [(fo, .inr (1, [.ref q_1, .ref q_2, .int 0, .int 0, .int 0])), (q_1, .inl (cI, 301, .inl (fun _ => 0))), (q_2, .inl (cI, 301, .inl (fun _ => 0)))] := hD
  refine lv_aload_n hx hb dX1_init_27 rfl (lv_at hl 0 rfl) ?_
  refine lv_iconst (v := 0) hx hb dX1_init_28 (by decide) ?_
  refine va_put (D := D) (ci := 1) (v := .int 0) (ty := .int) (C := RX1) (T := TX1) (N := 5) hx hb hts i_X1 tyX1 tyX1_ok nmX1 hown hK hP hD hS 0 rfl rfl 3 (by decide) w_8 (fun _ h9 => h9) rfl (by decide +kernel) rfl rfl (Nat.le_of_ble_eq_true rfl) dX1_init_29 (fun H locs hP hD hS => ?_)
  have hP : va_P D vwCl [(fo, .inr (1, [.ref q_1, .ref q_2, .int 0, .int 0, .int 0])), (q_1, .inl (cI, 301, .inl (fun _ => 0))), (q_2, .inl (cI, 301, .inl (fun _ => 0)))] H := hP
  have hD : va_D A [(fo, .inr (1, [.ref q_1, .ref q_2, .int 0, .int 0, .int 0])), (q_1, .inl (cI, 301, .inl (fun _ => 0))), (q_2, .inl (cI, 301, .inl (fun _ => 0)))] := hD
  refine lv_aload_n hx hb dX1_init_32 rfl (lv_at hl 0 rfl) ?_
  refine lv_iconst (v := 0) hx hb dX1_init_33 (by decide) ?_
  refine va_put (D := D) (ci := 1) (v := .int 0) (ty := .int) (C := RX1) (T := TX1) (N := 5) hx hb hts i_X1 tyX1 tyX1_ok nmX1 hown hK hP hD hS 0 rfl rfl 4 (by decide) w_9 (fun _ h9 => h9) rfl (by decide +kernel) rfl rfl (Nat.le_of_ble_eq_true rfl) dX1_init_34 (fun H locs hP hD hS => ?_)
  have hP : va_P D vwCl [(fo, .inr (1, [.ref q_1, .ref q_2, .int 0, .int 0, .int 0])), (q_1, .inl (cI, 301, .inl (fun _ => 0))), (q_2, .inl (cI, 301, .inl (fun _ => 0)))] H := hP
  have hD : va_D A [(fo, .inr (1, [.ref q_1, .ref q_2, .int 0, .int 0, .int 0])), (q_1, .inl (cI, 301, .inl (fun _ => 0))), (q_2, .inl (cI, 301, .inl (fun _ => 0)))] := hD
  refine W.widen (k := 2) (n := 602) (by omega) (by omega) ?_
  exact fin_v (q_1, q_2) hx hb hr hlocks dX1_init_37 hK hS hP hD trivial

set_option maxHeartbeats 4000000 in
set_option maxRecDepth 100000 in
theorem c_X3_init (l : Launch) (D : va_G) (cI cJ cL : ClassId) (sz : Nat) (sc : Nat)  :
    Met l yX3_init wsX3_init { frames := 1, cells := 153, slots := 46052, locals := 12 } (va_Pc [.ref sc] (Wg D [(cI, .int), (cJ, .array .int), (cL, .long)] [(sc, .inr (3, [.null, .int 0, .null]))] sz))
      (va_Qv (fun (u : Nat × Nat × (List Nat) × (Nat → Option Nat)) => gr_ok u.2.2.2 u.2.2.1 (fun _ => 301) (fun _ _ => (0 : Int32)) 151 301 (fun _ _ => 0)) (fun u => Wa D [(cI, .int), (cJ, .array .int), (cL, .long)] (va_A [(sc, .inr (3, [.null, .int 0, .null]))] sz) (([(sc, .inr (3, [.ref u.1, .int (nI 0), .ref u.2.1])), (u.1, .inl (cI, 450, .inl (fun _ => 0))), (u.2.1, .inl (cJ, 151, .inr (.inr (.inr (.inr u.2.2.2)))))] ++ va_pl u.2.2.1 (gF cI (fun _ => 301) (fun _ _ => 0))))) (va_A [(sc, .inr (3, [.null, .int 0, .null]))] sz)) 153 46052 (va_A [(sc, .inr (3, [.null, .int 0, .null]))] sz) := by
  refine Met.ofW (cc := cX3_init) (maxL := 1) (ret := none) (by decide) rfl ?_
  intro p e s m args below meth c s₁ B hml hv
  obtain ⟨rfl, ⟨hsz, hP, hK, hD0⟩, hO⟩ := hv
  have hx := B.exec
  have hb := B.bytes
  have hr := B.returns
  have hts := atoms_spec (ws := wsX3_init) B.pre
  have hown : s.vm.findClass RX3 = some m.cls := findClass_of_methodNamed B.named
  have hlocks := B.notSynchronized
  have hin : meth.name = "<init>" := (name_of_methodNamed B.named B.method).1
  subst hsz
  have hD := hD0.self (sz := s.heap.size)
  generalize hAe : va_A [(sc, .inr (3, [.null, .int 0, .null]))] s.heap.size = A at hD ⊢
  have hA : ∀ q : Nat, s.heap.size ≤ q → A q := fun q h => by rw [← hAe]; exact Or.inr h
  have hl := lv_entry ([.ref sc]) (n := 1) (Nat.le_of_ble_eq_true rfl)
  rw [lg_entry_eq]
  generalize (lg_sl ([.ref sc]) ++ List.replicate (1 - (lg_sl ([.ref sc])).length) Slot.unset).toArray = ls at hl ⊢
  have hl : lv_has ls 1 [(0, .ref sc)] := hl
  refine hv_start (A := A) (ws := [(sc, .inr (3, [.null, .int 0, .null]))]) hP (fun H locs hP hS => ?_)
  have w_0 := hts (.methodLink RX3 3 objectInit) (by decide +kernel)
  have w_1 := hts (.instanceMethod objectInit) (by decide +kernel)
  have w_2 := hts (.code objectInit ⟨#[0xb1]⟩ 1 none) (by decide +kernel)
  have w_3 := hts (.arrayClass .int) (by decide +kernel)
  have w_4 := hts (.fieldLink RX3 9 "TextAligner$Script" "steps" "[I") (by decide +kernel)
  have i_X3 : ∀ w ∈ wsX30, w ∈ wsX3_init := by decide +kernel
  have w_6 := hts (.fieldLink RX3 15 "TextAligner$Script" "length" "I") (by decide +kernel)
  have w_7 := hts (.classLink RX3 19 "[[I") (by decide +kernel)
  have w_8 := hts (.fieldLink RX3 21 "TextAligner$Script" "rest" "[[I") (by decide +kernel)
  refine lv_aload_n hx hb dX3_init_0 rfl (lv_at hl 0 rfl) ?_
  refine W.objInit hx hb hown w_0 w_1 w_2 rfl (by rw [hml]; exact hl.1) rfl dX3_init_1 (Nat.le_of_ble_eq_true rfl) (Nat.le_of_ble_eq_true rfl) ?_
  refine W.eq (g2 := F0 m 4 ls []) rfl ?_
  refine lv_aload_n hx hb dX3_init_4 rfl (lv_at hl 0 rfl) ?_
  refine lv_sipush (v := 450) hx hb dX3_init_5 (by decide) ?_
  refine W.eq (g2 := F0 m 8 ls (.int (nI 450) :: [.ref sc])) rfl ?_
  refine va_newI hx hb w_3 hK 0 rfl hP hD hS hA (k := 450) (by decide) (show 0 + 1 ≤ 153 by omega) (show 0 + 450 ≤ 46052 by omega) dX3_init_8 (fun q_1 H hP hD hS => ?_)
  have hP : va_P D vwCl [(sc, .inr (3, [.null, .int 0, .null])), (q_1, .inl (cI, 450, .inl (fun _ => 0)))] H := hP
  have hD : va_D A [(sc, .inr (3, [.null, .int 0, .null])), (q_1, .inl (cI, 450, .inl (fun _ => 0)))] := hD
  refine va_putF (D := D) (ci := 3) (v := .ref q_1) (ty := (.array .int)) (C := RX3) (T := TX3) (N := 3) hx hb hts i_X3 tyX3 tyX3_ok nmX3 hown hK hP hD hS 0 rfl rfl 0 (by decide) w_4 (fun _ h9 => h9) rfl hin rfl (by decide +kernel) rfl rfl (Nat.le_of_ble_eq_true rfl) dX3_init_10 (fun H locs hP hD hS => ?_)
  have hP : va_P D vwCl [(sc, .inr (3, [.ref q_1, .int 0, .null])), (q_1, .inl (cI, 450, .inl (fun _ => 0)))] H := hP
  have hD : va_D A [(sc, .inr (3, [.ref q_1, .int 0, .null])), (q_1, .inl (cI, 450, .inl (fun _ => 0)))] := hD
  refine lv_aload_n hx hb dX3_init_13 rfl (lv_at hl 0 rfl) ?_
  refine lv_iconst (v := 0) hx hb dX3_init_14 (by decide) ?_
  refine W.eq (g2 := F0 m 15 ls [.int (nI 0), .ref sc]) rfl ?_
  refine va_put (D := D) (ci := 3) (v := .int (nI 0)) (ty := .int) (C := RX3) (T := TX3) (N := 3) hx hb hts i_X3 tyX3 tyX3_ok nmX3 hown hK hP hD hS 0 rfl rfl 1 (by decide) w_6 (fun _ h9 => h9) rfl (by decide +kernel) rfl rfl (Nat.le_of_ble_eq_true rfl) dX3_init_15 (fun H locs hP hD hS => ?_)
  have hP : va_P D vwCl [(sc, .inr (3, [.ref q_1, .int (nI 0), .null])), (q_1, .inl (cI, 450, .inl (fun _ => 0)))] H := hP
  have hD : va_D A [(sc, .inr (3, [.ref q_1, .int (nI 0), .null])), (q_1, .inl (cI, 450, .inl (fun _ => 0)))] := hD
  refine lv_aload_n hx hb dX3_init_18 rfl (lv_at hl 0 rfl) ?_
  refine lv_sipush (v := 151) hx hb dX3_init_19 (by decide) ?_
  refine lv_sipush (v := 301) hx hb dX3_init_22 (by decide) ?_
  refine W.eq (g2 := F0 m 25 ls [.int (nI 301), .int (nI 151), .ref sc]) rfl ?_
  refine va_mnG hx hb hown w_7 hO w_3 0 1 rfl rfl hK hP hD hS hA (N := 151) (K := 301) (by decide) (by decide) (show 1 + (1 + 151) ≤ 153 by omega) (show 450 + (151 + 151 * 301) ≤ 46052 by omega) dX3_init_25 (fun q_2 LP g9 H hG hP hD hS => ?_)
  have hP : va_P D vwCl ([(sc, .inr (3, [.ref q_1, .int (nI 0), .null])), (q_1, .inl (cI, 450, .inl (fun _ => 0))), (q_2, .inl (cJ, 151, .inr (.inr (.inr (.inr g9)))))] ++ va_pl LP (gF cI (fun _ => 301) (fun _ _ => 0))) H := hP
  have hD : va_D A ([(sc, .inr (3, [.ref q_1, .int (nI 0), .null])), (q_1, .inl (cI, 450, .inl (fun _ => 0))), (q_2, .inl (cJ, 151, .inr (.inr (.inr (.inr g9)))))] ++ va_pl LP (gF cI (fun _ => 301) (fun _ _ => 0))) := hD
  refine va_putF (D := D) (ci := 3) (v := .ref q_2) (ty := (.array (.array .int))) (C := RX3) (T := TX3) (N := 3) hx hb hts i_X3 tyX3 tyX3_ok nmX3 hown hK hP hD hS 0 rfl rfl 2 (by decide) w_8 (fun _ h9 => h9) rfl hin rfl (by decide +kernel) rfl rfl (Nat.le_of_ble_eq_true rfl) dX3_init_29 (fun H locs hP hD hS => ?_)
  have hP : va_P D vwCl ([(sc, .inr (3, [.ref q_1, .int (nI 0), .ref q_2])), (q_1, .inl (cI, 450, .inl (fun _ => 0))), (q_2, .inl (cJ, 151, .inr (.inr (.inr (.inr g9)))))] ++ va_pl LP (gF cI (fun _ => 301) (fun _ _ => 0))) H := hP
  have hD : va_D A ([(sc, .inr (3, [.ref q_1, .int (nI 0), .ref q_2])), (q_1, .inl (cI, 450, .inl (fun _ => 0))), (q_2, .inl (cJ, 151, .inr (.inr (.inr (.inr g9)))))] ++ va_pl LP (gF cI (fun _ => 301) (fun _ _ => 0))) := hD
  refine W.widen (k := 153) (n := 46052) (by omega) (by omega) ?_
  exact fin_v (q_1, q_2, LP, g9) hx hb hr hlocks dX3_init_32 hK hS hP hD hG

set_option maxHeartbeats 4000000 in
set_option maxRecDepth 100000 in
theorem c_X2_init (l : Launch) (D : va_G) (cI cJ cL : ClassId) (sz : Nat) (so : Nat)  :
    Met l yX2_init wsX2_init { frames := 1, cells := 9, slots := 72, locals := 12 } (va_Pc [.ref so] (Wg D [(cI, .int), (cJ, .array .int), (cL, .long)] [(so, .inr (2, [.null, .int 0, .int 0]))] sz))
      (va_Qv (fun (u : Nat × (List Nat) × (Nat → Option Nat) × (Nat → Nat → Int32)) => gr_ok u.2.2.1 u.2.1 (fun _ => 8) u.2.2.2 8 8 (fun i j => if i = j then 1 else -1)) (fun u => Wa D [(cI, .int), (cJ, .array .int), (cL, .long)] (va_A [(so, .inr (2, [.null, .int 0, .int 0]))] sz) (([(so, .inr (2, [.ref u.1, .int 2, .int 1])), (u.1, .inl (cJ, 8, .inr (.inr (.inr (.inr u.2.2.1)))))] ++ va_pl u.2.1 (gF cI (fun _ => 8) u.2.2.2)))) (va_A [(so, .inr (2, [.null, .int 0, .int 0]))] sz)) 9 72 (va_A [(so, .inr (2, [.null, .int 0, .int 0]))] sz) := by
  refine Met.ofW (cc := cX2_init) (maxL := 3) (ret := none) (by decide) rfl ?_
  intro p e s m args below meth c s₁ B hml hv
  obtain ⟨rfl, ⟨hsz, hP, hK, hD0⟩, hO⟩ := hv
  have hx := B.exec
  have hb := B.bytes
  have hr := B.returns
  have hts := atoms_spec (ws := wsX2_init) B.pre
  have hown : s.vm.findClass RX2 = some m.cls := findClass_of_methodNamed B.named
  have hlocks := B.notSynchronized
  have hin : meth.name = "<init>" := (name_of_methodNamed B.named B.method).1
  subst hsz
  have hD := hD0.self (sz := s.heap.size)
  generalize hAe : va_A [(so, .inr (2, [.null, .int 0, .int 0]))] s.heap.size = A at hD ⊢
  have hA : ∀ q : Nat, s.heap.size ≤ q → A q := fun q h => by rw [← hAe]; exact Or.inr h
  have hl := lv_entry ([.ref so]) (n := 3) (Nat.le_of_ble_eq_true rfl)
  rw [lg_entry_eq]
  generalize (lg_sl ([.ref so]) ++ List.replicate (3 - (lg_sl ([.ref so])).length) Slot.unset).toArray = ls at hl ⊢
  have hl : lv_has ls 3 [(0, .ref so)] := hl
  refine hv_start (A := A) (ws := [(so, .inr (2, [.null, .int 0, .int 0]))]) hP (fun H locs hP hS => ?_)
  have w_0 := hts (.methodLink RX2 3 objectInit) (by decide +kernel)
  have w_1 := hts (.instanceMethod objectInit) (by decide +kernel)
  have w_2 := hts (.code objectInit ⟨#[0xb1]⟩ 1 none) (by decide +kernel)
  have w_3 := hts (.classLink RX2 9 "[[I") (by decide +kernel)
  have w_4 := hts (.arrayClass .int) (by decide +kernel)
  have w_5 := hts (.fieldLink RX2 11 "TextAligner$Scoring" "table" "[[I") (by decide +kernel)
  have i_X2 : ∀ w ∈ wsX20, w ∈ wsX2_init := by decide +kernel
  have w_7 := hts (.fieldLink RX2 16 "TextAligner$Scoring" "opening" "I") (by decide +kernel)
  have w_8 := hts (.fieldLink RX2 20 "TextAligner$Scoring" "extension" "I") (by decide +kernel)
  refine lv_aload_n hx hb dX2_init_0 rfl (lv_at hl 0 rfl) ?_
  refine W.objInit hx hb hown w_0 w_1 w_2 rfl (by rw [hml]; exact hl.1) rfl dX2_init_1 (Nat.le_of_ble_eq_true rfl) (Nat.le_of_ble_eq_true rfl) ?_
  refine W.eq (g2 := F0 m 4 ls []) rfl ?_
  refine lv_aload_n hx hb dX2_init_4 rfl (lv_at hl 0 rfl) ?_
  refine lv_bipush (v := 8) hx hb dX2_init_5 (by decide) ?_
  refine lv_bipush (v := 8) hx hb dX2_init_7 (by decide) ?_
  refine W.eq (g2 := F0 m 9 ls [.int (nI 8), .int (nI 8), .ref so]) rfl ?_
  refine va_mnG hx hb hown w_3 hO w_4 0 1 rfl rfl hK hP hD hS hA (N := 8) (K := 8) (by decide) (by decide) (show 0 + (1 + 8) ≤ 9 by omega) (show 0 + (8 + 8 * 8) ≤ 72 by omega) dX2_init_9 (fun q_1 LP g9 H hG hP hD hS => ?_)
  have hP : va_P D vwCl ([(so, .inr (2, [.null, .int 0, .int 0])), (q_1, .inl (cJ, 8, .inr (.inr (.inr (.inr g9)))))] ++ va_pl LP (gF cI (fun _ => 8) (fun _ _ => 0))) H := hP
  have hD : va_D A ([(so, .inr (2, [.null, .int 0, .int 0])), (q_1, .inl (cJ, 8, .inr (.inr (.inr (.inr g9)))))] ++ va_pl LP (gF cI (fun _ => 8) (fun _ _ => 0))) := hD
  refine va_putF (D := D) (ci := 2) (v := .ref q_1) (ty := (.array (.array .int))) (C := RX2) (T := TX2) (N := 3) hx hb hts i_X2 tyX2 tyX2_ok nmX2 hown hK hP hD hS 0 rfl rfl 0 (by decide) w_5 (fun _ h9 => h9) rfl hin rfl (by decide +kernel) rfl rfl (Nat.le_of_ble_eq_true rfl) dX2_init_13 (fun H locs hP hD hS => ?_)
  have hP : va_P D vwCl ([(so, .inr (2, [.ref q_1, .int 0, .int 0])), (q_1, .inl (cJ, 8, .inr (.inr (.inr (.inr g9)))))] ++ va_pl LP (gF cI (fun _ => 8) (fun _ _ => 0))) H := hP
  have hD : va_D A ([(so, .inr (2, [.ref q_1, .int 0, .int 0])), (q_1, .inl (cJ, 8, .inr (.inr (.inr (.inr g9)))))] ++ va_pl LP (gF cI (fun _ => 8) (fun _ _ => 0))) := hD
  refine lv_iconst (v := 0) hx hb dX2_init_16 (by decide) ?_
  refine lv_istore_n (lv' := [(1, .int 0), (0, .ref so)]) hx hb dX2_init_17 rfl hl (by decide) rfl (fun ls hl => ?_)
  refine hv_loop (fun zz H locs ls => ∃ (i : Nat) (pA : Nat → Nat → Int32) (MA : Nat → Nat → Int32), i ≤ 8 ∧ (∀ i1, i1 < i → ∀ j1, j1 < 8 → MA i1 j1 = if i1 = j1 then (1 : Int32) else -1) ∧ gr_ok g9 LP (fun _ => 8) pA 8 8 MA ∧ zz = 8 - i ∧ va_P D vwCl ([(so, .inr (2, [.ref q_1, .int 0, .int 0])), (q_1, .inl (cJ, 8, .inr (.inr (.inr (.inr g9)))))] ++ va_pl LP (gF cI (fun _ => 8) pA)) H ∧ va_D A ([(so, .inr (2, [.ref q_1, .int 0, .int 0])), (q_1, .inl (cJ, 8, .inr (.inr (.inr (.inr g9)))))] ++ va_pl LP (gF cI (fun _ => 8) pA)) ∧ va_S A s.heap H locs ∧ lv_has ls 3 [(0, .ref so), (1, .int (nI i))]) ?_ _ ⟨0, fun _ _ => 0, fun _ _ => 0, by omega, fun i1 h1 => absurd h1 (Nat.not_lt_zero i1), hG, rfl, hP, hD, hS, lv_sub hl [1, 0] rfl⟩
  intro zz_18 H locs ls hI ih_18
  obtain ⟨i, pA, MA, hi, hA1, hGA, hzz_18, hP, hD, hS, hl⟩ := hI
  refine lv_iload_n hx hb dX2_init_18 rfl (lv_at hl 1 rfl) ?_
  refine lv_bipush (v := 8) hx hb dX2_init_19 (by decide) ?_
  refine lv_icmp_ge (tgt := 62) hx hb dX2_init_21 (by decide) (fun c_21 => ?_) (fun c_21 => ?_)
  · have k_21 : 8 ≤ i := (nI_leI (a := 8) (b := i) (by omega) (by omega)).mp c_21
    refine lv_aload_n hx hb dX2_init_62 rfl (lv_at hl 0 rfl) ?_
    refine lv_iconst (v := 2) hx hb dX2_init_63 (by decide) ?_
    refine va_put (D := D) (ci := 2) (v := .int 2) (ty := .int) (C := RX2) (T := TX2) (N := 3) hx hb hts i_X2 tyX2 tyX2_ok nmX2 hown hK hP hD hS 0 rfl rfl 1 (by decide) w_7 (fun _ h9 => h9) rfl (by decide +kernel) rfl rfl (Nat.le_of_ble_eq_true rfl) dX2_init_64 (fun H locs hP hD hS => ?_)
    have hP : va_P D vwCl ([(so, .inr (2, [.ref q_1, .int 2, .int 0])), (q_1, .inl (cJ, 8, .inr (.inr (.inr (.inr g9)))))] ++ va_pl LP (gF cI (fun _ => 8) pA)) H := hP
    have hD : va_D A ([(so, .inr (2, [.ref q_1, .int 2, .int 0])), (q_1, .inl (cJ, 8, .inr (.inr (.inr (.inr g9)))))] ++ va_pl LP (gF cI (fun _ => 8) pA)) := hD
    refine lv_aload_n hx hb dX2_init_67 rfl (lv_at hl 0 rfl) ?_
    refine lv_iconst (v := 1) hx hb dX2_init_68 (by decide) ?_
    refine va_put (D := D) (ci := 2) (v := .int 1) (ty := .int) (C := RX2) (T := TX2) (N := 3) hx hb hts i_X2 tyX2 tyX2_ok nmX2 hown hK hP hD hS 0 rfl rfl 2 (by decide) w_8 (fun _ h9 => h9) rfl (by decide +kernel) rfl rfl (Nat.le_of_ble_eq_true rfl) dX2_init_69 (fun H locs hP hD hS => ?_)
    have hP : va_P D vwCl ([(so, .inr (2, [.ref q_1, .int 2, .int 1])), (q_1, .inl (cJ, 8, .inr (.inr (.inr (.inr g9)))))] ++ va_pl LP (gF cI (fun _ => 8) pA)) H := hP
    have hD : va_D A ([(so, .inr (2, [.ref q_1, .int 2, .int 1])), (q_1, .inl (cJ, 8, .inr (.inr (.inr (.inr g9)))))] ++ va_pl LP (gF cI (fun _ => 8) pA)) := hD
    refine W.widen (k := 9) (n := 72) (by omega) (by omega) ?_
    have hG8 : gr_ok g9 LP (fun _ => 8) pA 8 8 (fun i j => if i = j then 1 else -1) := ⟨fun i1 h1 => by
      obtain ⟨y, y1, y2, y3, y4⟩ := hGA.1 i1 h1
      exact ⟨y, y1, y2, y3, fun j1 h2 => (y4 j1 h2).trans (hA1 i1 (by omega) j1 h2)⟩, hGA.2⟩
    exact fin_v (q_1, LP, g9, pA) hx hb hr hlocks dX2_init_72 hK hS hP hD hG8
  · have k_21 : ¬ (8 ≤ i) := fun q => c_21 ((nI_leI (a := 8) (b := i) (by omega) (by omega)).mpr q)
    refine lv_iconst (v := 0) hx hb dX2_init_24 (by decide) ?_
    refine lv_istore_n (lv' := [(2, .int 0), (0, .ref so), (1, .int (nI i))]) hx hb dX2_init_25 rfl hl (by decide) rfl (fun ls hl => ?_)
    refine hv_loop (fun zz H locs ls => ∃ (j : Nat) (pB : Nat → Nat → Int32) (MB : Nat → Nat → Int32), j ≤ 8 ∧ (∀ i1, i1 < i → ∀ j1, j1 < 8 → MB i1 j1 = if i1 = j1 then (1 : Int32) else -1) ∧ (∀ j1, j1 < j → MB i j1 = if i = j1 then (1 : Int32) else -1) ∧ gr_ok g9 LP (fun _ => 8) pB 8 8 MB ∧ zz = 8 - j ∧ va_P D vwCl ([(so, .inr (2, [.ref q_1, .int 0, .int 0])), (q_1, .inl (cJ, 8, .inr (.inr (.inr (.inr g9)))))] ++ va_pl LP (gF cI (fun _ => 8) pB)) H ∧ va_D A ([(so, .inr (2, [.ref q_1, .int 0, .int 0])), (q_1, .inl (cJ, 8, .inr (.inr (.inr (.inr g9)))))] ++ va_pl LP (gF cI (fun _ => 8) pB)) ∧ va_S A s.heap H locs ∧ lv_has ls 3 [(0, .ref so), (1, .int (nI i)), (2, .int (nI j))]) ?_ _ ⟨0, pA, MA, by omega, hA1, fun j1 h => absurd h (Nat.not_lt_zero j1), hGA, rfl, hP, hD, hS, lv_sub hl [1, 2, 0] rfl⟩
    intro zz_26 H locs ls hI ih_26
    obtain ⟨j, pB, MB, hj, hB1, hB2, hGB, hzz_26, hP, hD, hS, hl⟩ := hI
    refine lv_iload_n hx hb dX2_init_26 rfl (lv_at hl 2 rfl) ?_
    refine lv_bipush (v := 8) hx hb dX2_init_27 (by decide) ?_
    refine lv_icmp_ge (tgt := 56) hx hb dX2_init_29 (by decide) (fun c_29 => ?_) (fun c_29 => ?_)
    · have k_29 : 8 ≤ j := (nI_leI (a := 8) (b := j) (by omega) (by omega)).mp c_29
      refine lv_iinc (v := nI (i + 1)) (lv' := [(1, .int (nI (i + 1))), (0, .ref so), (2, .int (nI j))]) hx hb dX2_init_56 hl (k := 1) rfl (nI_add i 1) (by decide) rfl (fun ls hl => ?_)
      refine lv_goto (tgt := 18) hx hb dX2_init_59 (by decide) ?_
      exact ih_18 (8 - (i + 1)) _ _ _ (by omega) ⟨i + 1, pB, MB, by omega, fun i1 h1 j1 h2 => by
          rcases Nat.lt_or_ge i1 i with q | q
          · exact hB1 i1 q j1 h2
          · have e9 : i1 = i := by omega
            subst e9; exact hB2 j1 (by omega)
         , hGB, rfl, hP, hD, hS, lv_sub hl [1, 0] rfl⟩
    · have k_29 : ¬ (8 ≤ j) := fun q => c_29 ((nI_leI (a := 8) (b := j) (by omega) (by omega)).mpr q)
      refine lv_aload_n hx hb dX2_init_32 rfl (lv_at hl 0 rfl) ?_
      refine va_get (D := D) (ci := 2) (v := .ref q_1) (C := RX2) (T := TX2) (N := 3) hx hb hts i_X2 hown hK hP 0 rfl rfl 0 (by decide) w_5 (fun _ h9 => h9) rfl dX2_init_33 ?_
      refine lv_iload_n hx hb dX2_init_36 rfl (lv_at hl 1 rfl) ?_
      obtain ⟨y_2, y_2a, y_2b, y_2c, y_2d⟩ := hGB.1 i (by omega)
      refine va_aldG hx hb hK hP 1 1 rfl rfl (k := i) y_2a (by omega) (by decide) dX2_init_37 ?_
      refine lv_iload_n hx hb dX2_init_38 rfl (lv_at hl 2 rfl) ?_
      refine lv_iload_n hx hb dX2_init_39 rfl (lv_at hl 1 rfl) ?_
      refine lv_iload_n hx hb dX2_init_40 rfl (lv_at hl 2 rfl) ?_
      refine hv_join 49 (fun H1 locs1 ls1 st1 => ∃ v9 : Int32, (v9 = if i = j then (1 : Int32) else -1) ∧ Value.int v9 :: [.int (nI j), .ref y_2] = st1 ∧ H = H1 ∧ locs = locs1 ∧ ls = ls1) ?_ ?_
      · rintro H1 locs1 ls1 st1 ⟨v9, ev9, rfl, rfl, rfl, rfl⟩
        obtain ⟨kq_3, hkq_3⟩ := va_pl_get (X := [(so, .inr (2, [.ref q_1, .int 0, .int 0])), (q_1, .inl (cJ, 8, .inr (.inr (.inr (.inr g9)))))]) (L := LP) (f := gF cI (fun _ => 8) pB) y_2b
        have hDo := hD
        refine va_iastN hx hb hK hP hD hS kq_3 0 hkq_3 rfl (k := j) (x := v9) (by rw [y_2c]; exact (by omega)) (by rw [y_2c]; decide) dX2_init_49 (fun H locs hP hD hS => ?_)
        rw [va_pl_set hDo y_2b hkq_3, gF_up] at hP hD
        have hG_4 := gUp_ok (v := v9) (j := j) hGB (show i < 8 by omega) y_2a y_2d
        generalize va_up pB y_2 (upd (pB y_2) j v9) = pr_4 at hP hD hG_4
        have hP : va_P D vwCl ([(so, .inr (2, [.ref q_1, .int 0, .int 0])), (q_1, .inl (cJ, 8, .inr (.inr (.inr (.inr g9)))))] ++ va_pl LP (gF cI (fun _ => 8) pr_4)) H := hP
        have hD : va_D A ([(so, .inr (2, [.ref q_1, .int 0, .int 0])), (q_1, .inl (cJ, 8, .inr (.inr (.inr (.inr g9)))))] ++ va_pl LP (gF cI (fun _ => 8) pr_4)) := hD
        refine lv_iinc (v := nI (j + 1)) (lv' := [(2, .int (nI (j + 1))), (0, .ref so), (1, .int (nI i))]) hx hb dX2_init_50 hl (k := 2) rfl (nI_add j 1) (by decide) rfl (fun ls hl => ?_)
        refine lv_goto (tgt := 26) hx hb dX2_init_53 (by decide) ?_
        exact ih_26 (8 - (j + 1)) _ _ _ (by omega) ⟨j + 1, pr_4, gUp MB i j v9, by omega, fun i1 h1 j1 h2 => (gUp_n (fun q => absurd q.1 (by omega))).trans (hB1 i1 h1 j1 h2), fun j1 h1 => by
            by_cases e9 : j1 = j
            · rw [e9]; exact gUp_s.trans ev9
            · exact (gUp_n (fun q => e9 q.2)).trans (hB2 j1 (by omega))
           , hG_4, rfl, hP, hD, hS, lv_sub hl [1, 2, 0] rfl⟩
      · intro hj_5
        refine lv_icmp_ne (tgt := 48) hx hb dX2_init_41 (by decide) (fun c_41 => ?_) (fun c_41 => ?_)
        · have k_41 : ¬ (i = j) := fun q => c_41 ((nI_eq (a := i) (b := j) (by omega) (by omega)).mpr q)
          refine lv_iconst (v := (-1)) hx hb dX2_init_48 (by decide) ?_
          exact hj_5 _ _ _ _ ⟨(-1), (if_neg k_41).symm, rfl, rfl, rfl, rfl⟩
        · have k_41 : i = j := (nI_eq (a := i) (b := j) (by omega) (by omega)).mp c_41
          refine lv_iconst (v := 1) hx hb dX2_init_44 (by decide) ?_
          refine lv_goto (tgt := 49) hx hb dX2_init_45 (by decide) ?_
          exact hj_5 _ _ _ _ ⟨1, (if_pos k_41).symm, rfl, rfl, rfl, rfl⟩

set_option maxHeartbeats 4000000 in
set_option maxRecDepth 100000 in
theorem c_X6_init (l : Launch) (D : va_G) (cI cJ cL : ClassId) (sz : Nat) (mo : Nat)  :
    Met l yX6_init wsX6_init { frames := 1, cells := 17, slots := 49276, locals := 12 } (va_Pc [.ref mo] (Wd D [(cI, .int), (cJ, .array .int), (cL, .long)] [(mo, .inr (6, [.int 0, .null, .null, .int 0, .int 0, .null, .null, .int 0, .int 0, .int 0, .null, .null, .null, .null, .null, .null, .null, .null, .int 0, .null, .null, .int 0, .int 0, .null, .null, .null, .int 0, .int 0]))] sz))
      (va_Qv (fun (u : Nat × Nat × Nat × Nat × Nat × Nat × Nat × Nat × Nat × Nat × Nat × Nat × Nat × Nat × Nat × Nat × Nat) => True) (fun u => Wa D [(cI, .int), (cJ, .array .int), (cL, .long)] (va_A [(mo, .inr (6, [.int 0, .null, .null, .int 0, .int 0, .null, .null, .int 0, .int 0, .int 0, .null, .null, .null, .null, .null, .null, .null, .null, .int 0, .null, .null, .int 0, .int 0, .null, .null, .null, .int 0, .int 0]))] sz) ([(mo, .inr (6, [.int 0, .ref u.1, .ref u.2.1, .int (nI 0), .int (nI 0), .ref u.2.2.1, .ref u.2.2.2.1, .int (nI 0), .int (nI 0), .int (nI 0), .ref u.2.2.2.2.1, .ref u.2.2.2.2.2.1, .ref u.2.2.2.2.2.2.1, .ref u.2.2.2.2.2.2.2.1, .ref u.2.2.2.2.2.2.2.2.1, .ref u.2.2.2.2.2.2.2.2.2.1, .ref u.2.2.2.2.2.2.2.2.2.2.1, .ref u.2.2.2.2.2.2.2.2.2.2.2.1, .int 0, .ref u.2.2.2.2.2.2.2.2.2.2.2.2.1, .ref u.2.2.2.2.2.2.2.2.2.2.2.2.2.1, .int 2, .int 1, .ref u.2.2.2.2.2.2.2.2.2.2.2.2.2.2.1, .ref u.2.2.2.2.2.2.2.2.2.2.2.2.2.2.2.1, .ref u.2.2.2.2.2.2.2.2.2.2.2.2.2.2.2.2, .int 0, .int 0])), (u.1, .inl (cI, 150, .inl (fun _ => 0))), (u.2.1, .inl (cI, 300, .inl (fun _ => 0))), (u.2.2.1, .inl (cI, 150, .inl (fun _ => 0))), (u.2.2.2.1, .inl (cI, 300, .inl (fun _ => 0))), (u.2.2.2.2.1, .inl (cI, 301, .inl (fun _ => 0))), (u.2.2.2.2.2.1, .inl (cI, 301, .inl (fun _ => 0))), (u.2.2.2.2.2.2.1, .inl (cI, 301, .inl (fun _ => 0))), (u.2.2.2.2.2.2.2.1, .inl (cI, 151, .inl (fun _ => 0))), (u.2.2.2.2.2.2.2.2.1, .inl (cI, 151, .inl (fun _ => 0))), (u.2.2.2.2.2.2.2.2.2.1, .inl (cI, 151, .inl (fun _ => 0))), (u.2.2.2.2.2.2.2.2.2.2.1, .inl (cI, 151, .inl (fun _ => 0))), (u.2.2.2.2.2.2.2.2.2.2.2.1, .inl (cI, 45451, .inl (fun _ => 0))), (u.2.2.2.2.2.2.2.2.2.2.2.2.1, .inl (cI, 451, .inl (fun _ => 0))), (u.2.2.2.2.2.2.2.2.2.2.2.2.2.1, .inl (cI, 64, .inl (sc0 64))), (u.2.2.2.2.2.2.2.2.2.2.2.2.2.2.1, .inl (cI, 301, .inl (fun _ => 0))), (u.2.2.2.2.2.2.2.2.2.2.2.2.2.2.2.1, .inl (cI, 301, .inl (fun _ => 0))), (u.2.2.2.2.2.2.2.2.2.2.2.2.2.2.2.2, .inl (cI, 301, .inl (fun _ => 0)))])) (va_A [(mo, .inr (6, [.int 0, .null, .null, .int 0, .int 0, .null, .null, .int 0, .int 0, .int 0, .null, .null, .null, .null, .null, .null, .null, .null, .int 0, .null, .null, .int 0, .int 0, .null, .null, .null, .int 0, .int 0]))] sz)) 17 49276 (va_A [(mo, .inr (6, [.int 0, .null, .null, .int 0, .int 0, .null, .null, .int 0, .int 0, .int 0, .null, .null, .null, .null, .null, .null, .null, .null, .int 0, .null, .null, .int 0, .int 0, .null, .null, .null, .int 0, .int 0]))] sz) := by
  refine Met.ofW (cc := cX6_init) (maxL := 2) (ret := none) (by decide) rfl ?_
  intro p e s m args below meth c s₁ B hml hv
  obtain ⟨rfl, hsz, hP, hK, hD0⟩ := hv
  have hx := B.exec
  have hb := B.bytes
  have hr := B.returns
  have hts := atoms_spec (ws := wsX6_init) B.pre
  have hown : s.vm.findClass RX6 = some m.cls := findClass_of_methodNamed B.named
  have hlocks := B.notSynchronized
  have hin : meth.name = "<init>" := (name_of_methodNamed B.named B.method).1
  subst hsz
  have hD := hD0.self (sz := s.heap.size)
  generalize hAe : va_A [(mo, .inr (6, [.int 0, .null, .null, .int 0, .int 0, .null, .null, .int 0, .int 0, .int 0, .null, .null, .null, .null, .null, .null, .null, .null, .int 0, .null, .null, .int 0, .int 0, .null, .null, .null, .int 0, .int 0]))] s.heap.size = A at hD ⊢
  have hA : ∀ q : Nat, s.heap.size ≤ q → A q := fun q h => by rw [← hAe]; exact Or.inr h
  have hl := lv_entry ([.ref mo]) (n := 2) (Nat.le_of_ble_eq_true rfl)
  rw [lg_entry_eq]
  generalize (lg_sl ([.ref mo]) ++ List.replicate (2 - (lg_sl ([.ref mo])).length) Slot.unset).toArray = ls at hl ⊢
  have hl : lv_has ls 2 [(0, .ref mo)] := hl
  refine hv_start (A := A) (ws := [(mo, .inr (6, [.int 0, .null, .null, .int 0, .int 0, .null, .null, .int 0, .int 0, .int 0, .null, .null, .null, .null, .null, .null, .null, .null, .int 0, .null, .null, .int 0, .int 0, .null, .null, .null, .int 0, .int 0]))]) hP (fun H locs hP hS => ?_)
  have w_0 := hts (.methodLink RX6 1 objectInit) (by decide +kernel)
  have w_1 := hts (.instanceMethod objectInit) (by decide +kernel)
  have w_2 := hts (.code objectInit ⟨#[0xb1]⟩ 1 none) (by decide +kernel)
  have w_3 := hts (.arrayClass .int) (by decide +kernel)
  have w_4 := hts (.fieldLink RX6 7 "TextAlignerModel" "pattern" "[I") (by decide +kernel)
  have i_X6 : ∀ w ∈ wsX60, w ∈ wsX6_init := by decide +kernel
  have w_6 := hts (.fieldLink RX6 13 "TextAlignerModel" "text" "[I") (by decide +kernel)
  have w_7 := hts (.fieldLink RX6 16 "TextAlignerModel" "oldPattern" "[I") (by decide +kernel)
  have w_8 := hts (.fieldLink RX6 19 "TextAlignerModel" "oldText" "[I") (by decide +kernel)
  have w_9 := hts (.fieldLink RX6 22 "TextAlignerModel" "ends" "[I") (by decide +kernel)
  have w_10 := hts (.fieldLink RX6 25 "TextAlignerModel" "distances" "[I") (by decide +kernel)
  have w_11 := hts (.fieldLink RX6 28 "TextAlignerModel" "starts" "[I") (by decide +kernel)
  have w_12 := hts (.fieldLink RX6 31 "TextAlignerModel" "before" "[I") (by decide +kernel)
  have w_13 := hts (.fieldLink RX6 34 "TextAlignerModel" "now" "[I") (by decide +kernel)
  have w_14 := hts (.fieldLink RX6 37 "TextAlignerModel" "beginsBefore" "[I") (by decide +kernel)
  have w_15 := hts (.fieldLink RX6 40 "TextAlignerModel" "begins" "[I") (by decide +kernel)
  have w_16 := hts (.constant RX6 43 45451) (by decide +kernel)
  have w_17 := hts (.fieldLink RX6 44 "TextAlignerModel" "left" "[I") (by decide +kernel)
  have w_18 := hts (.fieldLink RX6 47 "TextAlignerModel" "script" "[I") (by decide +kernel)
  have w_19 := hts (.fieldLink RX6 50 "TextAlignerModel" "scores" "[I") (by decide +kernel)
  have w_20 := hts (.fieldLink RX6 53 "TextAlignerModel" "opening" "I") (by decide +kernel)
  have w_21 := hts (.fieldLink RX6 57 "TextAlignerModel" "extension" "I") (by decide +kernel)
  have w_22 := hts (.fieldLink RX6 60 "TextAlignerModel" "both" "[I") (by decide +kernel)
  have w_23 := hts (.fieldLink RX6 63 "TextAlignerModel" "across" "[I") (by decide +kernel)
  have w_24 := hts (.fieldLink RX6 66 "TextAlignerModel" "down" "[I") (by decide +kernel)
  refine lv_aload_n hx hb dX6_init_0 rfl (lv_at hl 0 rfl) ?_
  refine W.objInit hx hb hown w_0 w_1 w_2 rfl (by rw [hml]; exact hl.1) rfl dX6_init_1 (Nat.le_of_ble_eq_true rfl) (Nat.le_of_ble_eq_true rfl) ?_
  refine W.eq (g2 := F0 m 4 ls []) rfl ?_
  refine lv_aload_n hx hb dX6_init_4 rfl (lv_at hl 0 rfl) ?_
  refine lv_sipush (v := 150) hx hb dX6_init_5 (by decide) ?_
  refine W.eq (g2 := F0 m 8 ls (.int (nI 150) :: [.ref mo])) rfl ?_
  refine va_newI hx hb w_3 hK 0 rfl hP hD hS hA (k := 150) (by decide) (show 0 + 1 ≤ 17 by omega) (show 0 + 150 ≤ 49276 by omega) dX6_init_8 (fun q_1 H hP hD hS => ?_)
  have hP : va_P D vwCl [(mo, .inr (6, [.int 0, .null, .null, .int 0, .int 0, .null, .null, .int 0, .int 0, .int 0, .null, .null, .null, .null, .null, .null, .null, .null, .int 0, .null, .null, .int 0, .int 0, .null, .null, .null, .int 0, .int 0])), (q_1, .inl (cI, 150, .inl (fun _ => 0)))] H := hP
  have hD : va_D A [(mo, .inr (6, [.int 0, .null, .null, .int 0, .int 0, .null, .null, .int 0, .int 0, .int 0, .null, .null, .null, .null, .null, .null, .null, .null, .int 0, .null, .null, .int 0, .int 0, .null, .null, .null, .int 0, .int 0])), (q_1, .inl (cI, 150, .inl (fun _ => 0)))] := hD
  refine va_putF (D := D) (ci := 6) (v := .ref q_1) (ty := (.array .int)) (C := RX6) (T := TX6) (N := 28) hx hb hts i_X6 tyX6 tyX6_ok nmX6 hown hK hP hD hS 0 rfl rfl 1 (by decide) w_4 (fun _ h9 => h9) rfl hin rfl (by decide +kernel) rfl rfl (Nat.le_of_ble_eq_true rfl) dX6_init_10 (fun H locs hP hD hS => ?_)
  have hP : va_P D vwCl [(mo, .inr (6, [.int 0, .ref q_1, .null, .int 0, .int 0, .null, .null, .int 0, .int 0, .int 0, .null, .null, .null, .null, .null, .null, .null, .null, .int 0, .null, .null, .int 0, .int 0, .null, .null, .null, .int 0, .int 0])), (q_1, .inl (cI, 150, .inl (fun _ => 0)))] H := hP
  have hD : va_D A [(mo, .inr (6, [.int 0, .ref q_1, .null, .int 0, .int 0, .null, .null, .int 0, .int 0, .int 0, .null, .null, .null, .null, .null, .null, .null, .null, .int 0, .null, .null, .int 0, .int 0, .null, .null, .null, .int 0, .int 0])), (q_1, .inl (cI, 150, .inl (fun _ => 0)))] := hD
  refine lv_aload_n hx hb dX6_init_13 rfl (lv_at hl 0 rfl) ?_
  refine lv_sipush (v := 300) hx hb dX6_init_14 (by decide) ?_
  refine W.eq (g2 := F0 m 17 ls (.int (nI 300) :: [.ref mo])) rfl ?_
  refine va_newI hx hb w_3 hK 0 rfl hP hD hS hA (k := 300) (by decide) (show 1 + 1 ≤ 17 by omega) (show 150 + 300 ≤ 49276 by omega) dX6_init_17 (fun q_2 H hP hD hS => ?_)
  have hP : va_P D vwCl [(mo, .inr (6, [.int 0, .ref q_1, .null, .int 0, .int 0, .null, .null, .int 0, .int 0, .int 0, .null, .null, .null, .null, .null, .null, .null, .null, .int 0, .null, .null, .int 0, .int 0, .null, .null, .null, .int 0, .int 0])), (q_1, .inl (cI, 150, .inl (fun _ => 0))), (q_2, .inl (cI, 300, .inl (fun _ => 0)))] H := hP
  have hD : va_D A [(mo, .inr (6, [.int 0, .ref q_1, .null, .int 0, .int 0, .null, .null, .int 0, .int 0, .int 0, .null, .null, .null, .null, .null, .null, .null, .null, .int 0, .null, .null, .int 0, .int 0, .null, .null, .null, .int 0, .int 0])), (q_1, .inl (cI, 150, .inl (fun _ => 0))), (q_2, .inl (cI, 300, .inl (fun _ => 0)))] := hD
  refine va_putF (D := D) (ci := 6) (v := .ref q_2) (ty := (.array .int)) (C := RX6) (T := TX6) (N := 28) hx hb hts i_X6 tyX6 tyX6_ok nmX6 hown hK hP hD hS 0 rfl rfl 2 (by decide) w_6 (fun _ h9 => h9) rfl hin rfl (by decide +kernel) rfl rfl (Nat.le_of_ble_eq_true rfl) dX6_init_19 (fun H locs hP hD hS => ?_)
  have hP : va_P D vwCl [(mo, .inr (6, [.int 0, .ref q_1, .ref q_2, .int 0, .int 0, .null, .null, .int 0, .int 0, .int 0, .null, .null, .null, .null, .null, .null, .null, .null, .int 0, .null, .null, .int 0, .int 0, .null, .null, .null, .int 0, .int 0])), (q_1, .inl (cI, 150, .inl (fun _ => 0))), (q_2, .inl (cI, 300, .inl (fun _ => 0)))] H := hP
  have hD : va_D A [(mo, .inr (6, [.int 0, .ref q_1, .ref q_2, .int 0, .int 0, .null, .null, .int 0, .int 0, .int 0, .null, .null, .null, .null, .null, .null, .null, .null, .int 0, .null, .null, .int 0, .int 0, .null, .null, .null, .int 0, .int 0])), (q_1, .inl (cI, 150, .inl (fun _ => 0))), (q_2, .inl (cI, 300, .inl (fun _ => 0)))] := hD
  refine lv_aload_n hx hb dX6_init_22 rfl (lv_at hl 0 rfl) ?_
  refine lv_sipush (v := 150) hx hb dX6_init_23 (by decide) ?_
  refine W.eq (g2 := F0 m 26 ls (.int (nI 150) :: [.ref mo])) rfl ?_
  refine va_newI hx hb w_3 hK 0 rfl hP hD hS hA (k := 150) (by decide) (show 2 + 1 ≤ 17 by omega) (show 450 + 150 ≤ 49276 by omega) dX6_init_26 (fun q_3 H hP hD hS => ?_)
  have hP : va_P D vwCl [(mo, .inr (6, [.int 0, .ref q_1, .ref q_2, .int 0, .int 0, .null, .null, .int 0, .int 0, .int 0, .null, .null, .null, .null, .null, .null, .null, .null, .int 0, .null, .null, .int 0, .int 0, .null, .null, .null, .int 0, .int 0])), (q_1, .inl (cI, 150, .inl (fun _ => 0))), (q_2, .inl (cI, 300, .inl (fun _ => 0))), (q_3, .inl (cI, 150, .inl (fun _ => 0)))] H := hP
  have hD : va_D A [(mo, .inr (6, [.int 0, .ref q_1, .ref q_2, .int 0, .int 0, .null, .null, .int 0, .int 0, .int 0, .null, .null, .null, .null, .null, .null, .null, .null, .int 0, .null, .null, .int 0, .int 0, .null, .null, .null, .int 0, .int 0])), (q_1, .inl (cI, 150, .inl (fun _ => 0))), (q_2, .inl (cI, 300, .inl (fun _ => 0))), (q_3, .inl (cI, 150, .inl (fun _ => 0)))] := hD
  refine va_putF (D := D) (ci := 6) (v := .ref q_3) (ty := (.array .int)) (C := RX6) (T := TX6) (N := 28) hx hb hts i_X6 tyX6 tyX6_ok nmX6 hown hK hP hD hS 0 rfl rfl 5 (by decide) w_7 (fun _ h9 => h9) rfl hin rfl (by decide +kernel) rfl rfl (Nat.le_of_ble_eq_true rfl) dX6_init_28 (fun H locs hP hD hS => ?_)
  have hP : va_P D vwCl [(mo, .inr (6, [.int 0, .ref q_1, .ref q_2, .int 0, .int 0, .ref q_3, .null, .int 0, .int 0, .int 0, .null, .null, .null, .null, .null, .null, .null, .null, .int 0, .null, .null, .int 0, .int 0, .null, .null, .null, .int 0, .int 0])), (q_1, .inl (cI, 150, .inl (fun _ => 0))), (q_2, .inl (cI, 300, .inl (fun _ => 0))), (q_3, .inl (cI, 150, .inl (fun _ => 0)))] H := hP
  have hD : va_D A [(mo, .inr (6, [.int 0, .ref q_1, .ref q_2, .int 0, .int 0, .ref q_3, .null, .int 0, .int 0, .int 0, .null, .null, .null, .null, .null, .null, .null, .null, .int 0, .null, .null, .int 0, .int 0, .null, .null, .null, .int 0, .int 0])), (q_1, .inl (cI, 150, .inl (fun _ => 0))), (q_2, .inl (cI, 300, .inl (fun _ => 0))), (q_3, .inl (cI, 150, .inl (fun _ => 0)))] := hD
  refine lv_aload_n hx hb dX6_init_31 rfl (lv_at hl 0 rfl) ?_
  refine lv_sipush (v := 300) hx hb dX6_init_32 (by decide) ?_
  refine W.eq (g2 := F0 m 35 ls (.int (nI 300) :: [.ref mo])) rfl ?_
  refine va_newI hx hb w_3 hK 0 rfl hP hD hS hA (k := 300) (by decide) (show 3 + 1 ≤ 17 by omega) (show 600 + 300 ≤ 49276 by omega) dX6_init_35 (fun q_4 H hP hD hS => ?_)
  have hP : va_P D vwCl [(mo, .inr (6, [.int 0, .ref q_1, .ref q_2, .int 0, .int 0, .ref q_3, .null, .int 0, .int 0, .int 0, .null, .null, .null, .null, .null, .null, .null, .null, .int 0, .null, .null, .int 0, .int 0, .null, .null, .null, .int 0, .int 0])), (q_1, .inl (cI, 150, .inl (fun _ => 0))), (q_2, .inl (cI, 300, .inl (fun _ => 0))), (q_3, .inl (cI, 150, .inl (fun _ => 0))), (q_4, .inl (cI, 300, .inl (fun _ => 0)))] H := hP
  have hD : va_D A [(mo, .inr (6, [.int 0, .ref q_1, .ref q_2, .int 0, .int 0, .ref q_3, .null, .int 0, .int 0, .int 0, .null, .null, .null, .null, .null, .null, .null, .null, .int 0, .null, .null, .int 0, .int 0, .null, .null, .null, .int 0, .int 0])), (q_1, .inl (cI, 150, .inl (fun _ => 0))), (q_2, .inl (cI, 300, .inl (fun _ => 0))), (q_3, .inl (cI, 150, .inl (fun _ => 0))), (q_4, .inl (cI, 300, .inl (fun _ => 0)))] := hD
  refine va_putF (D := D) (ci := 6) (v := .ref q_4) (ty := (.array .int)) (C := RX6) (T := TX6) (N := 28) hx hb hts i_X6 tyX6 tyX6_ok nmX6 hown hK hP hD hS 0 rfl rfl 6 (by decide) w_8 (fun _ h9 => h9) rfl hin rfl (by decide +kernel) rfl rfl (Nat.le_of_ble_eq_true rfl) dX6_init_37 (fun H locs hP hD hS => ?_)
  have hP : va_P D vwCl [(mo, .inr (6, [.int 0, .ref q_1, .ref q_2, .int 0, .int 0, .ref q_3, .ref q_4, .int 0, .int 0, .int 0, .null, .null, .null, .null, .null, .null, .null, .null, .int 0, .null, .null, .int 0, .int 0, .null, .null, .null, .int 0, .int 0])), (q_1, .inl (cI, 150, .inl (fun _ => 0))), (q_2, .inl (cI, 300, .inl (fun _ => 0))), (q_3, .inl (cI, 150, .inl (fun _ => 0))), (q_4, .inl (cI, 300, .inl (fun _ => 0)))] H := hP
  have hD : va_D A [(mo, .inr (6, [.int 0, .ref q_1, .ref q_2, .int 0, .int 0, .ref q_3, .ref q_4, .int 0, .int 0, .int 0, .null, .null, .null, .null, .null, .null, .null, .null, .int 0, .null, .null, .int 0, .int 0, .null, .null, .null, .int 0, .int 0])), (q_1, .inl (cI, 150, .inl (fun _ => 0))), (q_2, .inl (cI, 300, .inl (fun _ => 0))), (q_3, .inl (cI, 150, .inl (fun _ => 0))), (q_4, .inl (cI, 300, .inl (fun _ => 0)))] := hD
  refine lv_aload_n hx hb dX6_init_40 rfl (lv_at hl 0 rfl) ?_
  refine lv_sipush (v := 301) hx hb dX6_init_41 (by decide) ?_
  refine W.eq (g2 := F0 m 44 ls (.int (nI 301) :: [.ref mo])) rfl ?_
  refine va_newI hx hb w_3 hK 0 rfl hP hD hS hA (k := 301) (by decide) (show 4 + 1 ≤ 17 by omega) (show 900 + 301 ≤ 49276 by omega) dX6_init_44 (fun q_5 H hP hD hS => ?_)
  have hP : va_P D vwCl [(mo, .inr (6, [.int 0, .ref q_1, .ref q_2, .int 0, .int 0, .ref q_3, .ref q_4, .int 0, .int 0, .int 0, .null, .null, .null, .null, .null, .null, .null, .null, .int 0, .null, .null, .int 0, .int 0, .null, .null, .null, .int 0, .int 0])), (q_1, .inl (cI, 150, .inl (fun _ => 0))), (q_2, .inl (cI, 300, .inl (fun _ => 0))), (q_3, .inl (cI, 150, .inl (fun _ => 0))), (q_4, .inl (cI, 300, .inl (fun _ => 0))), (q_5, .inl (cI, 301, .inl (fun _ => 0)))] H := hP
  have hD : va_D A [(mo, .inr (6, [.int 0, .ref q_1, .ref q_2, .int 0, .int 0, .ref q_3, .ref q_4, .int 0, .int 0, .int 0, .null, .null, .null, .null, .null, .null, .null, .null, .int 0, .null, .null, .int 0, .int 0, .null, .null, .null, .int 0, .int 0])), (q_1, .inl (cI, 150, .inl (fun _ => 0))), (q_2, .inl (cI, 300, .inl (fun _ => 0))), (q_3, .inl (cI, 150, .inl (fun _ => 0))), (q_4, .inl (cI, 300, .inl (fun _ => 0))), (q_5, .inl (cI, 301, .inl (fun _ => 0)))] := hD
  refine va_putF (D := D) (ci := 6) (v := .ref q_5) (ty := (.array .int)) (C := RX6) (T := TX6) (N := 28) hx hb hts i_X6 tyX6 tyX6_ok nmX6 hown hK hP hD hS 0 rfl rfl 10 (by decide) w_9 (fun _ h9 => h9) rfl hin rfl (by decide +kernel) rfl rfl (Nat.le_of_ble_eq_true rfl) dX6_init_46 (fun H locs hP hD hS => ?_)
  have hP : va_P D vwCl [(mo, .inr (6, [.int 0, .ref q_1, .ref q_2, .int 0, .int 0, .ref q_3, .ref q_4, .int 0, .int 0, .int 0, .ref q_5, .null, .null, .null, .null, .null, .null, .null, .int 0, .null, .null, .int 0, .int 0, .null, .null, .null, .int 0, .int 0])), (q_1, .inl (cI, 150, .inl (fun _ => 0))), (q_2, .inl (cI, 300, .inl (fun _ => 0))), (q_3, .inl (cI, 150, .inl (fun _ => 0))), (q_4, .inl (cI, 300, .inl (fun _ => 0))), (q_5, .inl (cI, 301, .inl (fun _ => 0)))] H := hP
  have hD : va_D A [(mo, .inr (6, [.int 0, .ref q_1, .ref q_2, .int 0, .int 0, .ref q_3, .ref q_4, .int 0, .int 0, .int 0, .ref q_5, .null, .null, .null, .null, .null, .null, .null, .int 0, .null, .null, .int 0, .int 0, .null, .null, .null, .int 0, .int 0])), (q_1, .inl (cI, 150, .inl (fun _ => 0))), (q_2, .inl (cI, 300, .inl (fun _ => 0))), (q_3, .inl (cI, 150, .inl (fun _ => 0))), (q_4, .inl (cI, 300, .inl (fun _ => 0))), (q_5, .inl (cI, 301, .inl (fun _ => 0)))] := hD
  refine lv_aload_n hx hb dX6_init_49 rfl (lv_at hl 0 rfl) ?_
  refine lv_sipush (v := 301) hx hb dX6_init_50 (by decide) ?_
  refine W.eq (g2 := F0 m 53 ls (.int (nI 301) :: [.ref mo])) rfl ?_
  refine va_newI hx hb w_3 hK 0 rfl hP hD hS hA (k := 301) (by decide) (show 5 + 1 ≤ 17 by omega) (show 1201 + 301 ≤ 49276 by omega) dX6_init_53 (fun q_6 H hP hD hS => ?_)
  have hP : va_P D vwCl [(mo, .inr (6, [.int 0, .ref q_1, .ref q_2, .int 0, .int 0, .ref q_3, .ref q_4, .int 0, .int 0, .int 0, .ref q_5, .null, .null, .null, .null, .null, .null, .null, .int 0, .null, .null, .int 0, .int 0, .null, .null, .null, .int 0, .int 0])), (q_1, .inl (cI, 150, .inl (fun _ => 0))), (q_2, .inl (cI, 300, .inl (fun _ => 0))), (q_3, .inl (cI, 150, .inl (fun _ => 0))), (q_4, .inl (cI, 300, .inl (fun _ => 0))), (q_5, .inl (cI, 301, .inl (fun _ => 0))), (q_6, .inl (cI, 301, .inl (fun _ => 0)))] H := hP
  have hD : va_D A [(mo, .inr (6, [.int 0, .ref q_1, .ref q_2, .int 0, .int 0, .ref q_3, .ref q_4, .int 0, .int 0, .int 0, .ref q_5, .null, .null, .null, .null, .null, .null, .null, .int 0, .null, .null, .int 0, .int 0, .null, .null, .null, .int 0, .int 0])), (q_1, .inl (cI, 150, .inl (fun _ => 0))), (q_2, .inl (cI, 300, .inl (fun _ => 0))), (q_3, .inl (cI, 150, .inl (fun _ => 0))), (q_4, .inl (cI, 300, .inl (fun _ => 0))), (q_5, .inl (cI, 301, .inl (fun _ => 0))), (q_6, .inl (cI, 301, .inl (fun _ => 0)))] := hD
  refine va_putF (D := D) (ci := 6) (v := .ref q_6) (ty := (.array .int)) (C := RX6) (T := TX6) (N := 28) hx hb hts i_X6 tyX6 tyX6_ok nmX6 hown hK hP hD hS 0 rfl rfl 11 (by decide) w_10 (fun _ h9 => h9) rfl hin rfl (by decide +kernel) rfl rfl (Nat.le_of_ble_eq_true rfl) dX6_init_55 (fun H locs hP hD hS => ?_)
  have hP : va_P D vwCl [(mo, .inr (6, [.int 0, .ref q_1, .ref q_2, .int 0, .int 0, .ref q_3, .ref q_4, .int 0, .int 0, .int 0, .ref q_5, .ref q_6, .null, .null, .null, .null, .null, .null, .int 0, .null, .null, .int 0, .int 0, .null, .null, .null, .int 0, .int 0])), (q_1, .inl (cI, 150, .inl (fun _ => 0))), (q_2, .inl (cI, 300, .inl (fun _ => 0))), (q_3, .inl (cI, 150, .inl (fun _ => 0))), (q_4, .inl (cI, 300, .inl (fun _ => 0))), (q_5, .inl (cI, 301, .inl (fun _ => 0))), (q_6, .inl (cI, 301, .inl (fun _ => 0)))] H := hP
  have hD : va_D A [(mo, .inr (6, [.int 0, .ref q_1, .ref q_2, .int 0, .int 0, .ref q_3, .ref q_4, .int 0, .int 0, .int 0, .ref q_5, .ref q_6, .null, .null, .null, .null, .null, .null, .int 0, .null, .null, .int 0, .int 0, .null, .null, .null, .int 0, .int 0])), (q_1, .inl (cI, 150, .inl (fun _ => 0))), (q_2, .inl (cI, 300, .inl (fun _ => 0))), (q_3, .inl (cI, 150, .inl (fun _ => 0))), (q_4, .inl (cI, 300, .inl (fun _ => 0))), (q_5, .inl (cI, 301, .inl (fun _ => 0))), (q_6, .inl (cI, 301, .inl (fun _ => 0)))] := hD
  refine lv_aload_n hx hb dX6_init_58 rfl (lv_at hl 0 rfl) ?_
  refine lv_sipush (v := 301) hx hb dX6_init_59 (by decide) ?_
  refine W.eq (g2 := F0 m 62 ls (.int (nI 301) :: [.ref mo])) rfl ?_
  refine va_newI hx hb w_3 hK 0 rfl hP hD hS hA (k := 301) (by decide) (show 6 + 1 ≤ 17 by omega) (show 1502 + 301 ≤ 49276 by omega) dX6_init_62 (fun q_7 H hP hD hS => ?_)
  have hP : va_P D vwCl [(mo, .inr (6, [.int 0, .ref q_1, .ref q_2, .int 0, .int 0, .ref q_3, .ref q_4, .int 0, .int 0, .int 0, .ref q_5, .ref q_6, .null, .null, .null, .null, .null, .null, .int 0, .null, .null, .int 0, .int 0, .null, .null, .null, .int 0, .int 0])), (q_1, .inl (cI, 150, .inl (fun _ => 0))), (q_2, .inl (cI, 300, .inl (fun _ => 0))), (q_3, .inl (cI, 150, .inl (fun _ => 0))), (q_4, .inl (cI, 300, .inl (fun _ => 0))), (q_5, .inl (cI, 301, .inl (fun _ => 0))), (q_6, .inl (cI, 301, .inl (fun _ => 0))), (q_7, .inl (cI, 301, .inl (fun _ => 0)))] H := hP
  have hD : va_D A [(mo, .inr (6, [.int 0, .ref q_1, .ref q_2, .int 0, .int 0, .ref q_3, .ref q_4, .int 0, .int 0, .int 0, .ref q_5, .ref q_6, .null, .null, .null, .null, .null, .null, .int 0, .null, .null, .int 0, .int 0, .null, .null, .null, .int 0, .int 0])), (q_1, .inl (cI, 150, .inl (fun _ => 0))), (q_2, .inl (cI, 300, .inl (fun _ => 0))), (q_3, .inl (cI, 150, .inl (fun _ => 0))), (q_4, .inl (cI, 300, .inl (fun _ => 0))), (q_5, .inl (cI, 301, .inl (fun _ => 0))), (q_6, .inl (cI, 301, .inl (fun _ => 0))), (q_7, .inl (cI, 301, .inl (fun _ => 0)))] := hD
  refine va_putF (D := D) (ci := 6) (v := .ref q_7) (ty := (.array .int)) (C := RX6) (T := TX6) (N := 28) hx hb hts i_X6 tyX6 tyX6_ok nmX6 hown hK hP hD hS 0 rfl rfl 12 (by decide) w_11 (fun _ h9 => h9) rfl hin rfl (by decide +kernel) rfl rfl (Nat.le_of_ble_eq_true rfl) dX6_init_64 (fun H locs hP hD hS => ?_)
  have hP : va_P D vwCl [(mo, .inr (6, [.int 0, .ref q_1, .ref q_2, .int 0, .int 0, .ref q_3, .ref q_4, .int 0, .int 0, .int 0, .ref q_5, .ref q_6, .ref q_7, .null, .null, .null, .null, .null, .int 0, .null, .null, .int 0, .int 0, .null, .null, .null, .int 0, .int 0])), (q_1, .inl (cI, 150, .inl (fun _ => 0))), (q_2, .inl (cI, 300, .inl (fun _ => 0))), (q_3, .inl (cI, 150, .inl (fun _ => 0))), (q_4, .inl (cI, 300, .inl (fun _ => 0))), (q_5, .inl (cI, 301, .inl (fun _ => 0))), (q_6, .inl (cI, 301, .inl (fun _ => 0))), (q_7, .inl (cI, 301, .inl (fun _ => 0)))] H := hP
  have hD : va_D A [(mo, .inr (6, [.int 0, .ref q_1, .ref q_2, .int 0, .int 0, .ref q_3, .ref q_4, .int 0, .int 0, .int 0, .ref q_5, .ref q_6, .ref q_7, .null, .null, .null, .null, .null, .int 0, .null, .null, .int 0, .int 0, .null, .null, .null, .int 0, .int 0])), (q_1, .inl (cI, 150, .inl (fun _ => 0))), (q_2, .inl (cI, 300, .inl (fun _ => 0))), (q_3, .inl (cI, 150, .inl (fun _ => 0))), (q_4, .inl (cI, 300, .inl (fun _ => 0))), (q_5, .inl (cI, 301, .inl (fun _ => 0))), (q_6, .inl (cI, 301, .inl (fun _ => 0))), (q_7, .inl (cI, 301, .inl (fun _ => 0)))] := hD
  refine lv_aload_n hx hb dX6_init_67 rfl (lv_at hl 0 rfl) ?_
  refine lv_sipush (v := 151) hx hb dX6_init_68 (by decide) ?_
  refine W.eq (g2 := F0 m 71 ls (.int (nI 151) :: [.ref mo])) rfl ?_
  refine va_newI hx hb w_3 hK 0 rfl hP hD hS hA (k := 151) (by decide) (show 7 + 1 ≤ 17 by omega) (show 1803 + 151 ≤ 49276 by omega) dX6_init_71 (fun q_8 H hP hD hS => ?_)
  have hP : va_P D vwCl [(mo, .inr (6, [.int 0, .ref q_1, .ref q_2, .int 0, .int 0, .ref q_3, .ref q_4, .int 0, .int 0, .int 0, .ref q_5, .ref q_6, .ref q_7, .null, .null, .null, .null, .null, .int 0, .null, .null, .int 0, .int 0, .null, .null, .null, .int 0, .int 0])), (q_1, .inl (cI, 150, .inl (fun _ => 0))), (q_2, .inl (cI, 300, .inl (fun _ => 0))), (q_3, .inl (cI, 150, .inl (fun _ => 0))), (q_4, .inl (cI, 300, .inl (fun _ => 0))), (q_5, .inl (cI, 301, .inl (fun _ => 0))), (q_6, .inl (cI, 301, .inl (fun _ => 0))), (q_7, .inl (cI, 301, .inl (fun _ => 0))), (q_8, .inl (cI, 151, .inl (fun _ => 0)))] H := hP
  have hD : va_D A [(mo, .inr (6, [.int 0, .ref q_1, .ref q_2, .int 0, .int 0, .ref q_3, .ref q_4, .int 0, .int 0, .int 0, .ref q_5, .ref q_6, .ref q_7, .null, .null, .null, .null, .null, .int 0, .null, .null, .int 0, .int 0, .null, .null, .null, .int 0, .int 0])), (q_1, .inl (cI, 150, .inl (fun _ => 0))), (q_2, .inl (cI, 300, .inl (fun _ => 0))), (q_3, .inl (cI, 150, .inl (fun _ => 0))), (q_4, .inl (cI, 300, .inl (fun _ => 0))), (q_5, .inl (cI, 301, .inl (fun _ => 0))), (q_6, .inl (cI, 301, .inl (fun _ => 0))), (q_7, .inl (cI, 301, .inl (fun _ => 0))), (q_8, .inl (cI, 151, .inl (fun _ => 0)))] := hD
  refine va_putF (D := D) (ci := 6) (v := .ref q_8) (ty := (.array .int)) (C := RX6) (T := TX6) (N := 28) hx hb hts i_X6 tyX6 tyX6_ok nmX6 hown hK hP hD hS 0 rfl rfl 13 (by decide) w_12 (fun _ h9 => h9) rfl hin rfl (by decide +kernel) rfl rfl (Nat.le_of_ble_eq_true rfl) dX6_init_73 (fun H locs hP hD hS => ?_)
  have hP : va_P D vwCl [(mo, .inr (6, [.int 0, .ref q_1, .ref q_2, .int 0, .int 0, .ref q_3, .ref q_4, .int 0, .int 0, .int 0, .ref q_5, .ref q_6, .ref q_7, .ref q_8, .null, .null, .null, .null, .int 0, .null, .null, .int 0, .int 0, .null, .null, .null, .int 0, .int 0])), (q_1, .inl (cI, 150, .inl (fun _ => 0))), (q_2, .inl (cI, 300, .inl (fun _ => 0))), (q_3, .inl (cI, 150, .inl (fun _ => 0))), (q_4, .inl (cI, 300, .inl (fun _ => 0))), (q_5, .inl (cI, 301, .inl (fun _ => 0))), (q_6, .inl (cI, 301, .inl (fun _ => 0))), (q_7, .inl (cI, 301, .inl (fun _ => 0))), (q_8, .inl (cI, 151, .inl (fun _ => 0)))] H := hP
  have hD : va_D A [(mo, .inr (6, [.int 0, .ref q_1, .ref q_2, .int 0, .int 0, .ref q_3, .ref q_4, .int 0, .int 0, .int 0, .ref q_5, .ref q_6, .ref q_7, .ref q_8, .null, .null, .null, .null, .int 0, .null, .null, .int 0, .int 0, .null, .null, .null, .int 0, .int 0])), (q_1, .inl (cI, 150, .inl (fun _ => 0))), (q_2, .inl (cI, 300, .inl (fun _ => 0))), (q_3, .inl (cI, 150, .inl (fun _ => 0))), (q_4, .inl (cI, 300, .inl (fun _ => 0))), (q_5, .inl (cI, 301, .inl (fun _ => 0))), (q_6, .inl (cI, 301, .inl (fun _ => 0))), (q_7, .inl (cI, 301, .inl (fun _ => 0))), (q_8, .inl (cI, 151, .inl (fun _ => 0)))] := hD
  refine lv_aload_n hx hb dX6_init_76 rfl (lv_at hl 0 rfl) ?_
  refine lv_sipush (v := 151) hx hb dX6_init_77 (by decide) ?_
  refine W.eq (g2 := F0 m 80 ls (.int (nI 151) :: [.ref mo])) rfl ?_
  refine va_newI hx hb w_3 hK 0 rfl hP hD hS hA (k := 151) (by decide) (show 8 + 1 ≤ 17 by omega) (show 1954 + 151 ≤ 49276 by omega) dX6_init_80 (fun q_9 H hP hD hS => ?_)
  have hP : va_P D vwCl [(mo, .inr (6, [.int 0, .ref q_1, .ref q_2, .int 0, .int 0, .ref q_3, .ref q_4, .int 0, .int 0, .int 0, .ref q_5, .ref q_6, .ref q_7, .ref q_8, .null, .null, .null, .null, .int 0, .null, .null, .int 0, .int 0, .null, .null, .null, .int 0, .int 0])), (q_1, .inl (cI, 150, .inl (fun _ => 0))), (q_2, .inl (cI, 300, .inl (fun _ => 0))), (q_3, .inl (cI, 150, .inl (fun _ => 0))), (q_4, .inl (cI, 300, .inl (fun _ => 0))), (q_5, .inl (cI, 301, .inl (fun _ => 0))), (q_6, .inl (cI, 301, .inl (fun _ => 0))), (q_7, .inl (cI, 301, .inl (fun _ => 0))), (q_8, .inl (cI, 151, .inl (fun _ => 0))), (q_9, .inl (cI, 151, .inl (fun _ => 0)))] H := hP
  have hD : va_D A [(mo, .inr (6, [.int 0, .ref q_1, .ref q_2, .int 0, .int 0, .ref q_3, .ref q_4, .int 0, .int 0, .int 0, .ref q_5, .ref q_6, .ref q_7, .ref q_8, .null, .null, .null, .null, .int 0, .null, .null, .int 0, .int 0, .null, .null, .null, .int 0, .int 0])), (q_1, .inl (cI, 150, .inl (fun _ => 0))), (q_2, .inl (cI, 300, .inl (fun _ => 0))), (q_3, .inl (cI, 150, .inl (fun _ => 0))), (q_4, .inl (cI, 300, .inl (fun _ => 0))), (q_5, .inl (cI, 301, .inl (fun _ => 0))), (q_6, .inl (cI, 301, .inl (fun _ => 0))), (q_7, .inl (cI, 301, .inl (fun _ => 0))), (q_8, .inl (cI, 151, .inl (fun _ => 0))), (q_9, .inl (cI, 151, .inl (fun _ => 0)))] := hD
  refine va_putF (D := D) (ci := 6) (v := .ref q_9) (ty := (.array .int)) (C := RX6) (T := TX6) (N := 28) hx hb hts i_X6 tyX6 tyX6_ok nmX6 hown hK hP hD hS 0 rfl rfl 14 (by decide) w_13 (fun _ h9 => h9) rfl hin rfl (by decide +kernel) rfl rfl (Nat.le_of_ble_eq_true rfl) dX6_init_82 (fun H locs hP hD hS => ?_)
  have hP : va_P D vwCl [(mo, .inr (6, [.int 0, .ref q_1, .ref q_2, .int 0, .int 0, .ref q_3, .ref q_4, .int 0, .int 0, .int 0, .ref q_5, .ref q_6, .ref q_7, .ref q_8, .ref q_9, .null, .null, .null, .int 0, .null, .null, .int 0, .int 0, .null, .null, .null, .int 0, .int 0])), (q_1, .inl (cI, 150, .inl (fun _ => 0))), (q_2, .inl (cI, 300, .inl (fun _ => 0))), (q_3, .inl (cI, 150, .inl (fun _ => 0))), (q_4, .inl (cI, 300, .inl (fun _ => 0))), (q_5, .inl (cI, 301, .inl (fun _ => 0))), (q_6, .inl (cI, 301, .inl (fun _ => 0))), (q_7, .inl (cI, 301, .inl (fun _ => 0))), (q_8, .inl (cI, 151, .inl (fun _ => 0))), (q_9, .inl (cI, 151, .inl (fun _ => 0)))] H := hP
  have hD : va_D A [(mo, .inr (6, [.int 0, .ref q_1, .ref q_2, .int 0, .int 0, .ref q_3, .ref q_4, .int 0, .int 0, .int 0, .ref q_5, .ref q_6, .ref q_7, .ref q_8, .ref q_9, .null, .null, .null, .int 0, .null, .null, .int 0, .int 0, .null, .null, .null, .int 0, .int 0])), (q_1, .inl (cI, 150, .inl (fun _ => 0))), (q_2, .inl (cI, 300, .inl (fun _ => 0))), (q_3, .inl (cI, 150, .inl (fun _ => 0))), (q_4, .inl (cI, 300, .inl (fun _ => 0))), (q_5, .inl (cI, 301, .inl (fun _ => 0))), (q_6, .inl (cI, 301, .inl (fun _ => 0))), (q_7, .inl (cI, 301, .inl (fun _ => 0))), (q_8, .inl (cI, 151, .inl (fun _ => 0))), (q_9, .inl (cI, 151, .inl (fun _ => 0)))] := hD
  refine lv_aload_n hx hb dX6_init_85 rfl (lv_at hl 0 rfl) ?_
  refine lv_sipush (v := 151) hx hb dX6_init_86 (by decide) ?_
  refine W.eq (g2 := F0 m 89 ls (.int (nI 151) :: [.ref mo])) rfl ?_
  refine va_newI hx hb w_3 hK 0 rfl hP hD hS hA (k := 151) (by decide) (show 9 + 1 ≤ 17 by omega) (show 2105 + 151 ≤ 49276 by omega) dX6_init_89 (fun q_10 H hP hD hS => ?_)
  have hP : va_P D vwCl [(mo, .inr (6, [.int 0, .ref q_1, .ref q_2, .int 0, .int 0, .ref q_3, .ref q_4, .int 0, .int 0, .int 0, .ref q_5, .ref q_6, .ref q_7, .ref q_8, .ref q_9, .null, .null, .null, .int 0, .null, .null, .int 0, .int 0, .null, .null, .null, .int 0, .int 0])), (q_1, .inl (cI, 150, .inl (fun _ => 0))), (q_2, .inl (cI, 300, .inl (fun _ => 0))), (q_3, .inl (cI, 150, .inl (fun _ => 0))), (q_4, .inl (cI, 300, .inl (fun _ => 0))), (q_5, .inl (cI, 301, .inl (fun _ => 0))), (q_6, .inl (cI, 301, .inl (fun _ => 0))), (q_7, .inl (cI, 301, .inl (fun _ => 0))), (q_8, .inl (cI, 151, .inl (fun _ => 0))), (q_9, .inl (cI, 151, .inl (fun _ => 0))), (q_10, .inl (cI, 151, .inl (fun _ => 0)))] H := hP
  have hD : va_D A [(mo, .inr (6, [.int 0, .ref q_1, .ref q_2, .int 0, .int 0, .ref q_3, .ref q_4, .int 0, .int 0, .int 0, .ref q_5, .ref q_6, .ref q_7, .ref q_8, .ref q_9, .null, .null, .null, .int 0, .null, .null, .int 0, .int 0, .null, .null, .null, .int 0, .int 0])), (q_1, .inl (cI, 150, .inl (fun _ => 0))), (q_2, .inl (cI, 300, .inl (fun _ => 0))), (q_3, .inl (cI, 150, .inl (fun _ => 0))), (q_4, .inl (cI, 300, .inl (fun _ => 0))), (q_5, .inl (cI, 301, .inl (fun _ => 0))), (q_6, .inl (cI, 301, .inl (fun _ => 0))), (q_7, .inl (cI, 301, .inl (fun _ => 0))), (q_8, .inl (cI, 151, .inl (fun _ => 0))), (q_9, .inl (cI, 151, .inl (fun _ => 0))), (q_10, .inl (cI, 151, .inl (fun _ => 0)))] := hD
  refine va_putF (D := D) (ci := 6) (v := .ref q_10) (ty := (.array .int)) (C := RX6) (T := TX6) (N := 28) hx hb hts i_X6 tyX6 tyX6_ok nmX6 hown hK hP hD hS 0 rfl rfl 15 (by decide) w_14 (fun _ h9 => h9) rfl hin rfl (by decide +kernel) rfl rfl (Nat.le_of_ble_eq_true rfl) dX6_init_91 (fun H locs hP hD hS => ?_)
  have hP : va_P D vwCl [(mo, .inr (6, [.int 0, .ref q_1, .ref q_2, .int 0, .int 0, .ref q_3, .ref q_4, .int 0, .int 0, .int 0, .ref q_5, .ref q_6, .ref q_7, .ref q_8, .ref q_9, .ref q_10, .null, .null, .int 0, .null, .null, .int 0, .int 0, .null, .null, .null, .int 0, .int 0])), (q_1, .inl (cI, 150, .inl (fun _ => 0))), (q_2, .inl (cI, 300, .inl (fun _ => 0))), (q_3, .inl (cI, 150, .inl (fun _ => 0))), (q_4, .inl (cI, 300, .inl (fun _ => 0))), (q_5, .inl (cI, 301, .inl (fun _ => 0))), (q_6, .inl (cI, 301, .inl (fun _ => 0))), (q_7, .inl (cI, 301, .inl (fun _ => 0))), (q_8, .inl (cI, 151, .inl (fun _ => 0))), (q_9, .inl (cI, 151, .inl (fun _ => 0))), (q_10, .inl (cI, 151, .inl (fun _ => 0)))] H := hP
  have hD : va_D A [(mo, .inr (6, [.int 0, .ref q_1, .ref q_2, .int 0, .int 0, .ref q_3, .ref q_4, .int 0, .int 0, .int 0, .ref q_5, .ref q_6, .ref q_7, .ref q_8, .ref q_9, .ref q_10, .null, .null, .int 0, .null, .null, .int 0, .int 0, .null, .null, .null, .int 0, .int 0])), (q_1, .inl (cI, 150, .inl (fun _ => 0))), (q_2, .inl (cI, 300, .inl (fun _ => 0))), (q_3, .inl (cI, 150, .inl (fun _ => 0))), (q_4, .inl (cI, 300, .inl (fun _ => 0))), (q_5, .inl (cI, 301, .inl (fun _ => 0))), (q_6, .inl (cI, 301, .inl (fun _ => 0))), (q_7, .inl (cI, 301, .inl (fun _ => 0))), (q_8, .inl (cI, 151, .inl (fun _ => 0))), (q_9, .inl (cI, 151, .inl (fun _ => 0))), (q_10, .inl (cI, 151, .inl (fun _ => 0)))] := hD
  refine lv_aload_n hx hb dX6_init_94 rfl (lv_at hl 0 rfl) ?_
  refine lv_sipush (v := 151) hx hb dX6_init_95 (by decide) ?_
  refine W.eq (g2 := F0 m 98 ls (.int (nI 151) :: [.ref mo])) rfl ?_
  refine va_newI hx hb w_3 hK 0 rfl hP hD hS hA (k := 151) (by decide) (show 10 + 1 ≤ 17 by omega) (show 2256 + 151 ≤ 49276 by omega) dX6_init_98 (fun q_11 H hP hD hS => ?_)
  have hP : va_P D vwCl [(mo, .inr (6, [.int 0, .ref q_1, .ref q_2, .int 0, .int 0, .ref q_3, .ref q_4, .int 0, .int 0, .int 0, .ref q_5, .ref q_6, .ref q_7, .ref q_8, .ref q_9, .ref q_10, .null, .null, .int 0, .null, .null, .int 0, .int 0, .null, .null, .null, .int 0, .int 0])), (q_1, .inl (cI, 150, .inl (fun _ => 0))), (q_2, .inl (cI, 300, .inl (fun _ => 0))), (q_3, .inl (cI, 150, .inl (fun _ => 0))), (q_4, .inl (cI, 300, .inl (fun _ => 0))), (q_5, .inl (cI, 301, .inl (fun _ => 0))), (q_6, .inl (cI, 301, .inl (fun _ => 0))), (q_7, .inl (cI, 301, .inl (fun _ => 0))), (q_8, .inl (cI, 151, .inl (fun _ => 0))), (q_9, .inl (cI, 151, .inl (fun _ => 0))), (q_10, .inl (cI, 151, .inl (fun _ => 0))), (q_11, .inl (cI, 151, .inl (fun _ => 0)))] H := hP
  have hD : va_D A [(mo, .inr (6, [.int 0, .ref q_1, .ref q_2, .int 0, .int 0, .ref q_3, .ref q_4, .int 0, .int 0, .int 0, .ref q_5, .ref q_6, .ref q_7, .ref q_8, .ref q_9, .ref q_10, .null, .null, .int 0, .null, .null, .int 0, .int 0, .null, .null, .null, .int 0, .int 0])), (q_1, .inl (cI, 150, .inl (fun _ => 0))), (q_2, .inl (cI, 300, .inl (fun _ => 0))), (q_3, .inl (cI, 150, .inl (fun _ => 0))), (q_4, .inl (cI, 300, .inl (fun _ => 0))), (q_5, .inl (cI, 301, .inl (fun _ => 0))), (q_6, .inl (cI, 301, .inl (fun _ => 0))), (q_7, .inl (cI, 301, .inl (fun _ => 0))), (q_8, .inl (cI, 151, .inl (fun _ => 0))), (q_9, .inl (cI, 151, .inl (fun _ => 0))), (q_10, .inl (cI, 151, .inl (fun _ => 0))), (q_11, .inl (cI, 151, .inl (fun _ => 0)))] := hD
  refine va_putF (D := D) (ci := 6) (v := .ref q_11) (ty := (.array .int)) (C := RX6) (T := TX6) (N := 28) hx hb hts i_X6 tyX6 tyX6_ok nmX6 hown hK hP hD hS 0 rfl rfl 16 (by decide) w_15 (fun _ h9 => h9) rfl hin rfl (by decide +kernel) rfl rfl (Nat.le_of_ble_eq_true rfl) dX6_init_100 (fun H locs hP hD hS => ?_)
  have hP : va_P D vwCl [(mo, .inr (6, [.int 0, .ref q_1, .ref q_2, .int 0, .int 0, .ref q_3, .ref q_4, .int 0, .int 0, .int 0, .ref q_5, .ref q_6, .ref q_7, .ref q_8, .ref q_9, .ref q_10, .ref q_11, .null, .int 0, .null, .null, .int 0, .int 0, .null, .null, .null, .int 0, .int 0])), (q_1, .inl (cI, 150, .inl (fun _ => 0))), (q_2, .inl (cI, 300, .inl (fun _ => 0))), (q_3, .inl (cI, 150, .inl (fun _ => 0))), (q_4, .inl (cI, 300, .inl (fun _ => 0))), (q_5, .inl (cI, 301, .inl (fun _ => 0))), (q_6, .inl (cI, 301, .inl (fun _ => 0))), (q_7, .inl (cI, 301, .inl (fun _ => 0))), (q_8, .inl (cI, 151, .inl (fun _ => 0))), (q_9, .inl (cI, 151, .inl (fun _ => 0))), (q_10, .inl (cI, 151, .inl (fun _ => 0))), (q_11, .inl (cI, 151, .inl (fun _ => 0)))] H := hP
  have hD : va_D A [(mo, .inr (6, [.int 0, .ref q_1, .ref q_2, .int 0, .int 0, .ref q_3, .ref q_4, .int 0, .int 0, .int 0, .ref q_5, .ref q_6, .ref q_7, .ref q_8, .ref q_9, .ref q_10, .ref q_11, .null, .int 0, .null, .null, .int 0, .int 0, .null, .null, .null, .int 0, .int 0])), (q_1, .inl (cI, 150, .inl (fun _ => 0))), (q_2, .inl (cI, 300, .inl (fun _ => 0))), (q_3, .inl (cI, 150, .inl (fun _ => 0))), (q_4, .inl (cI, 300, .inl (fun _ => 0))), (q_5, .inl (cI, 301, .inl (fun _ => 0))), (q_6, .inl (cI, 301, .inl (fun _ => 0))), (q_7, .inl (cI, 301, .inl (fun _ => 0))), (q_8, .inl (cI, 151, .inl (fun _ => 0))), (q_9, .inl (cI, 151, .inl (fun _ => 0))), (q_10, .inl (cI, 151, .inl (fun _ => 0))), (q_11, .inl (cI, 151, .inl (fun _ => 0)))] := hD
  refine lv_aload_n hx hb dX6_init_103 rfl (lv_at hl 0 rfl) ?_
  refine lv_ldc (v := 45451) hx hb hown w_16 dX6_init_104 ?_
  refine W.eq (g2 := F0 m 106 ls (.int (nI 45451) :: [.ref mo])) rfl ?_
  refine va_newI hx hb w_3 hK 0 rfl hP hD hS hA (k := 45451) (by decide) (show 11 + 1 ≤ 17 by omega) (show 2407 + 45451 ≤ 49276 by omega) dX6_init_106 (fun q_12 H hP hD hS => ?_)
  have hP : va_P D vwCl [(mo, .inr (6, [.int 0, .ref q_1, .ref q_2, .int 0, .int 0, .ref q_3, .ref q_4, .int 0, .int 0, .int 0, .ref q_5, .ref q_6, .ref q_7, .ref q_8, .ref q_9, .ref q_10, .ref q_11, .null, .int 0, .null, .null, .int 0, .int 0, .null, .null, .null, .int 0, .int 0])), (q_1, .inl (cI, 150, .inl (fun _ => 0))), (q_2, .inl (cI, 300, .inl (fun _ => 0))), (q_3, .inl (cI, 150, .inl (fun _ => 0))), (q_4, .inl (cI, 300, .inl (fun _ => 0))), (q_5, .inl (cI, 301, .inl (fun _ => 0))), (q_6, .inl (cI, 301, .inl (fun _ => 0))), (q_7, .inl (cI, 301, .inl (fun _ => 0))), (q_8, .inl (cI, 151, .inl (fun _ => 0))), (q_9, .inl (cI, 151, .inl (fun _ => 0))), (q_10, .inl (cI, 151, .inl (fun _ => 0))), (q_11, .inl (cI, 151, .inl (fun _ => 0))), (q_12, .inl (cI, 45451, .inl (fun _ => 0)))] H := hP
  have hD : va_D A [(mo, .inr (6, [.int 0, .ref q_1, .ref q_2, .int 0, .int 0, .ref q_3, .ref q_4, .int 0, .int 0, .int 0, .ref q_5, .ref q_6, .ref q_7, .ref q_8, .ref q_9, .ref q_10, .ref q_11, .null, .int 0, .null, .null, .int 0, .int 0, .null, .null, .null, .int 0, .int 0])), (q_1, .inl (cI, 150, .inl (fun _ => 0))), (q_2, .inl (cI, 300, .inl (fun _ => 0))), (q_3, .inl (cI, 150, .inl (fun _ => 0))), (q_4, .inl (cI, 300, .inl (fun _ => 0))), (q_5, .inl (cI, 301, .inl (fun _ => 0))), (q_6, .inl (cI, 301, .inl (fun _ => 0))), (q_7, .inl (cI, 301, .inl (fun _ => 0))), (q_8, .inl (cI, 151, .inl (fun _ => 0))), (q_9, .inl (cI, 151, .inl (fun _ => 0))), (q_10, .inl (cI, 151, .inl (fun _ => 0))), (q_11, .inl (cI, 151, .inl (fun _ => 0))), (q_12, .inl (cI, 45451, .inl (fun _ => 0)))] := hD
  refine va_putF (D := D) (ci := 6) (v := .ref q_12) (ty := (.array .int)) (C := RX6) (T := TX6) (N := 28) hx hb hts i_X6 tyX6 tyX6_ok nmX6 hown hK hP hD hS 0 rfl rfl 17 (by decide) w_17 (fun _ h9 => h9) rfl hin rfl (by decide +kernel) rfl rfl (Nat.le_of_ble_eq_true rfl) dX6_init_108 (fun H locs hP hD hS => ?_)
  have hP : va_P D vwCl [(mo, .inr (6, [.int 0, .ref q_1, .ref q_2, .int 0, .int 0, .ref q_3, .ref q_4, .int 0, .int 0, .int 0, .ref q_5, .ref q_6, .ref q_7, .ref q_8, .ref q_9, .ref q_10, .ref q_11, .ref q_12, .int 0, .null, .null, .int 0, .int 0, .null, .null, .null, .int 0, .int 0])), (q_1, .inl (cI, 150, .inl (fun _ => 0))), (q_2, .inl (cI, 300, .inl (fun _ => 0))), (q_3, .inl (cI, 150, .inl (fun _ => 0))), (q_4, .inl (cI, 300, .inl (fun _ => 0))), (q_5, .inl (cI, 301, .inl (fun _ => 0))), (q_6, .inl (cI, 301, .inl (fun _ => 0))), (q_7, .inl (cI, 301, .inl (fun _ => 0))), (q_8, .inl (cI, 151, .inl (fun _ => 0))), (q_9, .inl (cI, 151, .inl (fun _ => 0))), (q_10, .inl (cI, 151, .inl (fun _ => 0))), (q_11, .inl (cI, 151, .inl (fun _ => 0))), (q_12, .inl (cI, 45451, .inl (fun _ => 0)))] H := hP
  have hD : va_D A [(mo, .inr (6, [.int 0, .ref q_1, .ref q_2, .int 0, .int 0, .ref q_3, .ref q_4, .int 0, .int 0, .int 0, .ref q_5, .ref q_6, .ref q_7, .ref q_8, .ref q_9, .ref q_10, .ref q_11, .ref q_12, .int 0, .null, .null, .int 0, .int 0, .null, .null, .null, .int 0, .int 0])), (q_1, .inl (cI, 150, .inl (fun _ => 0))), (q_2, .inl (cI, 300, .inl (fun _ => 0))), (q_3, .inl (cI, 150, .inl (fun _ => 0))), (q_4, .inl (cI, 300, .inl (fun _ => 0))), (q_5, .inl (cI, 301, .inl (fun _ => 0))), (q_6, .inl (cI, 301, .inl (fun _ => 0))), (q_7, .inl (cI, 301, .inl (fun _ => 0))), (q_8, .inl (cI, 151, .inl (fun _ => 0))), (q_9, .inl (cI, 151, .inl (fun _ => 0))), (q_10, .inl (cI, 151, .inl (fun _ => 0))), (q_11, .inl (cI, 151, .inl (fun _ => 0))), (q_12, .inl (cI, 45451, .inl (fun _ => 0)))] := hD
  refine lv_aload_n hx hb dX6_init_111 rfl (lv_at hl 0 rfl) ?_
  refine lv_sipush (v := 451) hx hb dX6_init_112 (by decide) ?_
  refine W.eq (g2 := F0 m 115 ls (.int (nI 451) :: [.ref mo])) rfl ?_
  refine va_newI hx hb w_3 hK 0 rfl hP hD hS hA (k := 451) (by decide) (show 12 + 1 ≤ 17 by omega) (show 47858 + 451 ≤ 49276 by omega) dX6_init_115 (fun q_13 H hP hD hS => ?_)
  have hP : va_P D vwCl [(mo, .inr (6, [.int 0, .ref q_1, .ref q_2, .int 0, .int 0, .ref q_3, .ref q_4, .int 0, .int 0, .int 0, .ref q_5, .ref q_6, .ref q_7, .ref q_8, .ref q_9, .ref q_10, .ref q_11, .ref q_12, .int 0, .null, .null, .int 0, .int 0, .null, .null, .null, .int 0, .int 0])), (q_1, .inl (cI, 150, .inl (fun _ => 0))), (q_2, .inl (cI, 300, .inl (fun _ => 0))), (q_3, .inl (cI, 150, .inl (fun _ => 0))), (q_4, .inl (cI, 300, .inl (fun _ => 0))), (q_5, .inl (cI, 301, .inl (fun _ => 0))), (q_6, .inl (cI, 301, .inl (fun _ => 0))), (q_7, .inl (cI, 301, .inl (fun _ => 0))), (q_8, .inl (cI, 151, .inl (fun _ => 0))), (q_9, .inl (cI, 151, .inl (fun _ => 0))), (q_10, .inl (cI, 151, .inl (fun _ => 0))), (q_11, .inl (cI, 151, .inl (fun _ => 0))), (q_12, .inl (cI, 45451, .inl (fun _ => 0))), (q_13, .inl (cI, 451, .inl (fun _ => 0)))] H := hP
  have hD : va_D A [(mo, .inr (6, [.int 0, .ref q_1, .ref q_2, .int 0, .int 0, .ref q_3, .ref q_4, .int 0, .int 0, .int 0, .ref q_5, .ref q_6, .ref q_7, .ref q_8, .ref q_9, .ref q_10, .ref q_11, .ref q_12, .int 0, .null, .null, .int 0, .int 0, .null, .null, .null, .int 0, .int 0])), (q_1, .inl (cI, 150, .inl (fun _ => 0))), (q_2, .inl (cI, 300, .inl (fun _ => 0))), (q_3, .inl (cI, 150, .inl (fun _ => 0))), (q_4, .inl (cI, 300, .inl (fun _ => 0))), (q_5, .inl (cI, 301, .inl (fun _ => 0))), (q_6, .inl (cI, 301, .inl (fun _ => 0))), (q_7, .inl (cI, 301, .inl (fun _ => 0))), (q_8, .inl (cI, 151, .inl (fun _ => 0))), (q_9, .inl (cI, 151, .inl (fun _ => 0))), (q_10, .inl (cI, 151, .inl (fun _ => 0))), (q_11, .inl (cI, 151, .inl (fun _ => 0))), (q_12, .inl (cI, 45451, .inl (fun _ => 0))), (q_13, .inl (cI, 451, .inl (fun _ => 0)))] := hD
  refine va_putF (D := D) (ci := 6) (v := .ref q_13) (ty := (.array .int)) (C := RX6) (T := TX6) (N := 28) hx hb hts i_X6 tyX6 tyX6_ok nmX6 hown hK hP hD hS 0 rfl rfl 19 (by decide) w_18 (fun _ h9 => h9) rfl hin rfl (by decide +kernel) rfl rfl (Nat.le_of_ble_eq_true rfl) dX6_init_117 (fun H locs hP hD hS => ?_)
  have hP : va_P D vwCl [(mo, .inr (6, [.int 0, .ref q_1, .ref q_2, .int 0, .int 0, .ref q_3, .ref q_4, .int 0, .int 0, .int 0, .ref q_5, .ref q_6, .ref q_7, .ref q_8, .ref q_9, .ref q_10, .ref q_11, .ref q_12, .int 0, .ref q_13, .null, .int 0, .int 0, .null, .null, .null, .int 0, .int 0])), (q_1, .inl (cI, 150, .inl (fun _ => 0))), (q_2, .inl (cI, 300, .inl (fun _ => 0))), (q_3, .inl (cI, 150, .inl (fun _ => 0))), (q_4, .inl (cI, 300, .inl (fun _ => 0))), (q_5, .inl (cI, 301, .inl (fun _ => 0))), (q_6, .inl (cI, 301, .inl (fun _ => 0))), (q_7, .inl (cI, 301, .inl (fun _ => 0))), (q_8, .inl (cI, 151, .inl (fun _ => 0))), (q_9, .inl (cI, 151, .inl (fun _ => 0))), (q_10, .inl (cI, 151, .inl (fun _ => 0))), (q_11, .inl (cI, 151, .inl (fun _ => 0))), (q_12, .inl (cI, 45451, .inl (fun _ => 0))), (q_13, .inl (cI, 451, .inl (fun _ => 0)))] H := hP
  have hD : va_D A [(mo, .inr (6, [.int 0, .ref q_1, .ref q_2, .int 0, .int 0, .ref q_3, .ref q_4, .int 0, .int 0, .int 0, .ref q_5, .ref q_6, .ref q_7, .ref q_8, .ref q_9, .ref q_10, .ref q_11, .ref q_12, .int 0, .ref q_13, .null, .int 0, .int 0, .null, .null, .null, .int 0, .int 0])), (q_1, .inl (cI, 150, .inl (fun _ => 0))), (q_2, .inl (cI, 300, .inl (fun _ => 0))), (q_3, .inl (cI, 150, .inl (fun _ => 0))), (q_4, .inl (cI, 300, .inl (fun _ => 0))), (q_5, .inl (cI, 301, .inl (fun _ => 0))), (q_6, .inl (cI, 301, .inl (fun _ => 0))), (q_7, .inl (cI, 301, .inl (fun _ => 0))), (q_8, .inl (cI, 151, .inl (fun _ => 0))), (q_9, .inl (cI, 151, .inl (fun _ => 0))), (q_10, .inl (cI, 151, .inl (fun _ => 0))), (q_11, .inl (cI, 151, .inl (fun _ => 0))), (q_12, .inl (cI, 45451, .inl (fun _ => 0))), (q_13, .inl (cI, 451, .inl (fun _ => 0)))] := hD
  refine lv_aload_n hx hb dX6_init_120 rfl (lv_at hl 0 rfl) ?_
  refine lv_bipush (v := 64) hx hb dX6_init_121 (by decide) ?_
  refine W.eq (g2 := F0 m 123 ls (.int (nI 64) :: [.ref mo])) rfl ?_
  refine va_newI hx hb w_3 hK 0 rfl hP hD hS hA (k := 64) (by decide) (show 13 + 1 ≤ 17 by omega) (show 48309 + 64 ≤ 49276 by omega) dX6_init_123 (fun q_14 H hP hD hS => ?_)
  have hP : va_P D vwCl [(mo, .inr (6, [.int 0, .ref q_1, .ref q_2, .int 0, .int 0, .ref q_3, .ref q_4, .int 0, .int 0, .int 0, .ref q_5, .ref q_6, .ref q_7, .ref q_8, .ref q_9, .ref q_10, .ref q_11, .ref q_12, .int 0, .ref q_13, .null, .int 0, .int 0, .null, .null, .null, .int 0, .int 0])), (q_1, .inl (cI, 150, .inl (fun _ => 0))), (q_2, .inl (cI, 300, .inl (fun _ => 0))), (q_3, .inl (cI, 150, .inl (fun _ => 0))), (q_4, .inl (cI, 300, .inl (fun _ => 0))), (q_5, .inl (cI, 301, .inl (fun _ => 0))), (q_6, .inl (cI, 301, .inl (fun _ => 0))), (q_7, .inl (cI, 301, .inl (fun _ => 0))), (q_8, .inl (cI, 151, .inl (fun _ => 0))), (q_9, .inl (cI, 151, .inl (fun _ => 0))), (q_10, .inl (cI, 151, .inl (fun _ => 0))), (q_11, .inl (cI, 151, .inl (fun _ => 0))), (q_12, .inl (cI, 45451, .inl (fun _ => 0))), (q_13, .inl (cI, 451, .inl (fun _ => 0))), (q_14, .inl (cI, 64, .inl (fun _ => 0)))] H := hP
  have hD : va_D A [(mo, .inr (6, [.int 0, .ref q_1, .ref q_2, .int 0, .int 0, .ref q_3, .ref q_4, .int 0, .int 0, .int 0, .ref q_5, .ref q_6, .ref q_7, .ref q_8, .ref q_9, .ref q_10, .ref q_11, .ref q_12, .int 0, .ref q_13, .null, .int 0, .int 0, .null, .null, .null, .int 0, .int 0])), (q_1, .inl (cI, 150, .inl (fun _ => 0))), (q_2, .inl (cI, 300, .inl (fun _ => 0))), (q_3, .inl (cI, 150, .inl (fun _ => 0))), (q_4, .inl (cI, 300, .inl (fun _ => 0))), (q_5, .inl (cI, 301, .inl (fun _ => 0))), (q_6, .inl (cI, 301, .inl (fun _ => 0))), (q_7, .inl (cI, 301, .inl (fun _ => 0))), (q_8, .inl (cI, 151, .inl (fun _ => 0))), (q_9, .inl (cI, 151, .inl (fun _ => 0))), (q_10, .inl (cI, 151, .inl (fun _ => 0))), (q_11, .inl (cI, 151, .inl (fun _ => 0))), (q_12, .inl (cI, 45451, .inl (fun _ => 0))), (q_13, .inl (cI, 451, .inl (fun _ => 0))), (q_14, .inl (cI, 64, .inl (fun _ => 0)))] := hD
  refine va_putF (D := D) (ci := 6) (v := .ref q_14) (ty := (.array .int)) (C := RX6) (T := TX6) (N := 28) hx hb hts i_X6 tyX6 tyX6_ok nmX6 hown hK hP hD hS 0 rfl rfl 20 (by decide) w_19 (fun _ h9 => h9) rfl hin rfl (by decide +kernel) rfl rfl (Nat.le_of_ble_eq_true rfl) dX6_init_125 (fun H locs hP hD hS => ?_)
  have hP : va_P D vwCl [(mo, .inr (6, [.int 0, .ref q_1, .ref q_2, .int 0, .int 0, .ref q_3, .ref q_4, .int 0, .int 0, .int 0, .ref q_5, .ref q_6, .ref q_7, .ref q_8, .ref q_9, .ref q_10, .ref q_11, .ref q_12, .int 0, .ref q_13, .ref q_14, .int 0, .int 0, .null, .null, .null, .int 0, .int 0])), (q_1, .inl (cI, 150, .inl (fun _ => 0))), (q_2, .inl (cI, 300, .inl (fun _ => 0))), (q_3, .inl (cI, 150, .inl (fun _ => 0))), (q_4, .inl (cI, 300, .inl (fun _ => 0))), (q_5, .inl (cI, 301, .inl (fun _ => 0))), (q_6, .inl (cI, 301, .inl (fun _ => 0))), (q_7, .inl (cI, 301, .inl (fun _ => 0))), (q_8, .inl (cI, 151, .inl (fun _ => 0))), (q_9, .inl (cI, 151, .inl (fun _ => 0))), (q_10, .inl (cI, 151, .inl (fun _ => 0))), (q_11, .inl (cI, 151, .inl (fun _ => 0))), (q_12, .inl (cI, 45451, .inl (fun _ => 0))), (q_13, .inl (cI, 451, .inl (fun _ => 0))), (q_14, .inl (cI, 64, .inl (fun _ => 0)))] H := hP
  have hD : va_D A [(mo, .inr (6, [.int 0, .ref q_1, .ref q_2, .int 0, .int 0, .ref q_3, .ref q_4, .int 0, .int 0, .int 0, .ref q_5, .ref q_6, .ref q_7, .ref q_8, .ref q_9, .ref q_10, .ref q_11, .ref q_12, .int 0, .ref q_13, .ref q_14, .int 0, .int 0, .null, .null, .null, .int 0, .int 0])), (q_1, .inl (cI, 150, .inl (fun _ => 0))), (q_2, .inl (cI, 300, .inl (fun _ => 0))), (q_3, .inl (cI, 150, .inl (fun _ => 0))), (q_4, .inl (cI, 300, .inl (fun _ => 0))), (q_5, .inl (cI, 301, .inl (fun _ => 0))), (q_6, .inl (cI, 301, .inl (fun _ => 0))), (q_7, .inl (cI, 301, .inl (fun _ => 0))), (q_8, .inl (cI, 151, .inl (fun _ => 0))), (q_9, .inl (cI, 151, .inl (fun _ => 0))), (q_10, .inl (cI, 151, .inl (fun _ => 0))), (q_11, .inl (cI, 151, .inl (fun _ => 0))), (q_12, .inl (cI, 45451, .inl (fun _ => 0))), (q_13, .inl (cI, 451, .inl (fun _ => 0))), (q_14, .inl (cI, 64, .inl (fun _ => 0)))] := hD
  refine lv_aload_n hx hb dX6_init_128 rfl (lv_at hl 0 rfl) ?_
  refine lv_iconst (v := 2) hx hb dX6_init_129 (by decide) ?_
  refine va_put (D := D) (ci := 6) (v := .int 2) (ty := .int) (C := RX6) (T := TX6) (N := 28) hx hb hts i_X6 tyX6 tyX6_ok nmX6 hown hK hP hD hS 0 rfl rfl 21 (by decide) w_20 (fun _ h9 => h9) rfl (by decide +kernel) rfl rfl (Nat.le_of_ble_eq_true rfl) dX6_init_130 (fun H locs hP hD hS => ?_)
  have hP : va_P D vwCl [(mo, .inr (6, [.int 0, .ref q_1, .ref q_2, .int 0, .int 0, .ref q_3, .ref q_4, .int 0, .int 0, .int 0, .ref q_5, .ref q_6, .ref q_7, .ref q_8, .ref q_9, .ref q_10, .ref q_11, .ref q_12, .int 0, .ref q_13, .ref q_14, .int 2, .int 0, .null, .null, .null, .int 0, .int 0])), (q_1, .inl (cI, 150, .inl (fun _ => 0))), (q_2, .inl (cI, 300, .inl (fun _ => 0))), (q_3, .inl (cI, 150, .inl (fun _ => 0))), (q_4, .inl (cI, 300, .inl (fun _ => 0))), (q_5, .inl (cI, 301, .inl (fun _ => 0))), (q_6, .inl (cI, 301, .inl (fun _ => 0))), (q_7, .inl (cI, 301, .inl (fun _ => 0))), (q_8, .inl (cI, 151, .inl (fun _ => 0))), (q_9, .inl (cI, 151, .inl (fun _ => 0))), (q_10, .inl (cI, 151, .inl (fun _ => 0))), (q_11, .inl (cI, 151, .inl (fun _ => 0))), (q_12, .inl (cI, 45451, .inl (fun _ => 0))), (q_13, .inl (cI, 451, .inl (fun _ => 0))), (q_14, .inl (cI, 64, .inl (fun _ => 0)))] H := hP
  have hD : va_D A [(mo, .inr (6, [.int 0, .ref q_1, .ref q_2, .int 0, .int 0, .ref q_3, .ref q_4, .int 0, .int 0, .int 0, .ref q_5, .ref q_6, .ref q_7, .ref q_8, .ref q_9, .ref q_10, .ref q_11, .ref q_12, .int 0, .ref q_13, .ref q_14, .int 2, .int 0, .null, .null, .null, .int 0, .int 0])), (q_1, .inl (cI, 150, .inl (fun _ => 0))), (q_2, .inl (cI, 300, .inl (fun _ => 0))), (q_3, .inl (cI, 150, .inl (fun _ => 0))), (q_4, .inl (cI, 300, .inl (fun _ => 0))), (q_5, .inl (cI, 301, .inl (fun _ => 0))), (q_6, .inl (cI, 301, .inl (fun _ => 0))), (q_7, .inl (cI, 301, .inl (fun _ => 0))), (q_8, .inl (cI, 151, .inl (fun _ => 0))), (q_9, .inl (cI, 151, .inl (fun _ => 0))), (q_10, .inl (cI, 151, .inl (fun _ => 0))), (q_11, .inl (cI, 151, .inl (fun _ => 0))), (q_12, .inl (cI, 45451, .inl (fun _ => 0))), (q_13, .inl (cI, 451, .inl (fun _ => 0))), (q_14, .inl (cI, 64, .inl (fun _ => 0)))] := hD
  refine lv_aload_n hx hb dX6_init_133 rfl (lv_at hl 0 rfl) ?_
  refine lv_iconst (v := 1) hx hb dX6_init_134 (by decide) ?_
  refine va_put (D := D) (ci := 6) (v := .int 1) (ty := .int) (C := RX6) (T := TX6) (N := 28) hx hb hts i_X6 tyX6 tyX6_ok nmX6 hown hK hP hD hS 0 rfl rfl 22 (by decide) w_21 (fun _ h9 => h9) rfl (by decide +kernel) rfl rfl (Nat.le_of_ble_eq_true rfl) dX6_init_135 (fun H locs hP hD hS => ?_)
  have hP : va_P D vwCl [(mo, .inr (6, [.int 0, .ref q_1, .ref q_2, .int 0, .int 0, .ref q_3, .ref q_4, .int 0, .int 0, .int 0, .ref q_5, .ref q_6, .ref q_7, .ref q_8, .ref q_9, .ref q_10, .ref q_11, .ref q_12, .int 0, .ref q_13, .ref q_14, .int 2, .int 1, .null, .null, .null, .int 0, .int 0])), (q_1, .inl (cI, 150, .inl (fun _ => 0))), (q_2, .inl (cI, 300, .inl (fun _ => 0))), (q_3, .inl (cI, 150, .inl (fun _ => 0))), (q_4, .inl (cI, 300, .inl (fun _ => 0))), (q_5, .inl (cI, 301, .inl (fun _ => 0))), (q_6, .inl (cI, 301, .inl (fun _ => 0))), (q_7, .inl (cI, 301, .inl (fun _ => 0))), (q_8, .inl (cI, 151, .inl (fun _ => 0))), (q_9, .inl (cI, 151, .inl (fun _ => 0))), (q_10, .inl (cI, 151, .inl (fun _ => 0))), (q_11, .inl (cI, 151, .inl (fun _ => 0))), (q_12, .inl (cI, 45451, .inl (fun _ => 0))), (q_13, .inl (cI, 451, .inl (fun _ => 0))), (q_14, .inl (cI, 64, .inl (fun _ => 0)))] H := hP
  have hD : va_D A [(mo, .inr (6, [.int 0, .ref q_1, .ref q_2, .int 0, .int 0, .ref q_3, .ref q_4, .int 0, .int 0, .int 0, .ref q_5, .ref q_6, .ref q_7, .ref q_8, .ref q_9, .ref q_10, .ref q_11, .ref q_12, .int 0, .ref q_13, .ref q_14, .int 2, .int 1, .null, .null, .null, .int 0, .int 0])), (q_1, .inl (cI, 150, .inl (fun _ => 0))), (q_2, .inl (cI, 300, .inl (fun _ => 0))), (q_3, .inl (cI, 150, .inl (fun _ => 0))), (q_4, .inl (cI, 300, .inl (fun _ => 0))), (q_5, .inl (cI, 301, .inl (fun _ => 0))), (q_6, .inl (cI, 301, .inl (fun _ => 0))), (q_7, .inl (cI, 301, .inl (fun _ => 0))), (q_8, .inl (cI, 151, .inl (fun _ => 0))), (q_9, .inl (cI, 151, .inl (fun _ => 0))), (q_10, .inl (cI, 151, .inl (fun _ => 0))), (q_11, .inl (cI, 151, .inl (fun _ => 0))), (q_12, .inl (cI, 45451, .inl (fun _ => 0))), (q_13, .inl (cI, 451, .inl (fun _ => 0))), (q_14, .inl (cI, 64, .inl (fun _ => 0)))] := hD
  refine lv_aload_n hx hb dX6_init_138 rfl (lv_at hl 0 rfl) ?_
  refine lv_sipush (v := 301) hx hb dX6_init_139 (by decide) ?_
  refine W.eq (g2 := F0 m 142 ls (.int (nI 301) :: [.ref mo])) rfl ?_
  refine va_newI hx hb w_3 hK 0 rfl hP hD hS hA (k := 301) (by decide) (show 14 + 1 ≤ 17 by omega) (show 48373 + 301 ≤ 49276 by omega) dX6_init_142 (fun q_15 H hP hD hS => ?_)
  have hP : va_P D vwCl [(mo, .inr (6, [.int 0, .ref q_1, .ref q_2, .int 0, .int 0, .ref q_3, .ref q_4, .int 0, .int 0, .int 0, .ref q_5, .ref q_6, .ref q_7, .ref q_8, .ref q_9, .ref q_10, .ref q_11, .ref q_12, .int 0, .ref q_13, .ref q_14, .int 2, .int 1, .null, .null, .null, .int 0, .int 0])), (q_1, .inl (cI, 150, .inl (fun _ => 0))), (q_2, .inl (cI, 300, .inl (fun _ => 0))), (q_3, .inl (cI, 150, .inl (fun _ => 0))), (q_4, .inl (cI, 300, .inl (fun _ => 0))), (q_5, .inl (cI, 301, .inl (fun _ => 0))), (q_6, .inl (cI, 301, .inl (fun _ => 0))), (q_7, .inl (cI, 301, .inl (fun _ => 0))), (q_8, .inl (cI, 151, .inl (fun _ => 0))), (q_9, .inl (cI, 151, .inl (fun _ => 0))), (q_10, .inl (cI, 151, .inl (fun _ => 0))), (q_11, .inl (cI, 151, .inl (fun _ => 0))), (q_12, .inl (cI, 45451, .inl (fun _ => 0))), (q_13, .inl (cI, 451, .inl (fun _ => 0))), (q_14, .inl (cI, 64, .inl (fun _ => 0))), (q_15, .inl (cI, 301, .inl (fun _ => 0)))] H := hP
  have hD : va_D A [(mo, .inr (6, [.int 0, .ref q_1, .ref q_2, .int 0, .int 0, .ref q_3, .ref q_4, .int 0, .int 0, .int 0, .ref q_5, .ref q_6, .ref q_7, .ref q_8, .ref q_9, .ref q_10, .ref q_11, .ref q_12, .int 0, .ref q_13, .ref q_14, .int 2, .int 1, .null, .null, .null, .int 0, .int 0])), (q_1, .inl (cI, 150, .inl (fun _ => 0))), (q_2, .inl (cI, 300, .inl (fun _ => 0))), (q_3, .inl (cI, 150, .inl (fun _ => 0))), (q_4, .inl (cI, 300, .inl (fun _ => 0))), (q_5, .inl (cI, 301, .inl (fun _ => 0))), (q_6, .inl (cI, 301, .inl (fun _ => 0))), (q_7, .inl (cI, 301, .inl (fun _ => 0))), (q_8, .inl (cI, 151, .inl (fun _ => 0))), (q_9, .inl (cI, 151, .inl (fun _ => 0))), (q_10, .inl (cI, 151, .inl (fun _ => 0))), (q_11, .inl (cI, 151, .inl (fun _ => 0))), (q_12, .inl (cI, 45451, .inl (fun _ => 0))), (q_13, .inl (cI, 451, .inl (fun _ => 0))), (q_14, .inl (cI, 64, .inl (fun _ => 0))), (q_15, .inl (cI, 301, .inl (fun _ => 0)))] := hD
  refine va_putF (D := D) (ci := 6) (v := .ref q_15) (ty := (.array .int)) (C := RX6) (T := TX6) (N := 28) hx hb hts i_X6 tyX6 tyX6_ok nmX6 hown hK hP hD hS 0 rfl rfl 23 (by decide) w_22 (fun _ h9 => h9) rfl hin rfl (by decide +kernel) rfl rfl (Nat.le_of_ble_eq_true rfl) dX6_init_144 (fun H locs hP hD hS => ?_)
  have hP : va_P D vwCl [(mo, .inr (6, [.int 0, .ref q_1, .ref q_2, .int 0, .int 0, .ref q_3, .ref q_4, .int 0, .int 0, .int 0, .ref q_5, .ref q_6, .ref q_7, .ref q_8, .ref q_9, .ref q_10, .ref q_11, .ref q_12, .int 0, .ref q_13, .ref q_14, .int 2, .int 1, .ref q_15, .null, .null, .int 0, .int 0])), (q_1, .inl (cI, 150, .inl (fun _ => 0))), (q_2, .inl (cI, 300, .inl (fun _ => 0))), (q_3, .inl (cI, 150, .inl (fun _ => 0))), (q_4, .inl (cI, 300, .inl (fun _ => 0))), (q_5, .inl (cI, 301, .inl (fun _ => 0))), (q_6, .inl (cI, 301, .inl (fun _ => 0))), (q_7, .inl (cI, 301, .inl (fun _ => 0))), (q_8, .inl (cI, 151, .inl (fun _ => 0))), (q_9, .inl (cI, 151, .inl (fun _ => 0))), (q_10, .inl (cI, 151, .inl (fun _ => 0))), (q_11, .inl (cI, 151, .inl (fun _ => 0))), (q_12, .inl (cI, 45451, .inl (fun _ => 0))), (q_13, .inl (cI, 451, .inl (fun _ => 0))), (q_14, .inl (cI, 64, .inl (fun _ => 0))), (q_15, .inl (cI, 301, .inl (fun _ => 0)))] H := hP
  have hD : va_D A [(mo, .inr (6, [.int 0, .ref q_1, .ref q_2, .int 0, .int 0, .ref q_3, .ref q_4, .int 0, .int 0, .int 0, .ref q_5, .ref q_6, .ref q_7, .ref q_8, .ref q_9, .ref q_10, .ref q_11, .ref q_12, .int 0, .ref q_13, .ref q_14, .int 2, .int 1, .ref q_15, .null, .null, .int 0, .int 0])), (q_1, .inl (cI, 150, .inl (fun _ => 0))), (q_2, .inl (cI, 300, .inl (fun _ => 0))), (q_3, .inl (cI, 150, .inl (fun _ => 0))), (q_4, .inl (cI, 300, .inl (fun _ => 0))), (q_5, .inl (cI, 301, .inl (fun _ => 0))), (q_6, .inl (cI, 301, .inl (fun _ => 0))), (q_7, .inl (cI, 301, .inl (fun _ => 0))), (q_8, .inl (cI, 151, .inl (fun _ => 0))), (q_9, .inl (cI, 151, .inl (fun _ => 0))), (q_10, .inl (cI, 151, .inl (fun _ => 0))), (q_11, .inl (cI, 151, .inl (fun _ => 0))), (q_12, .inl (cI, 45451, .inl (fun _ => 0))), (q_13, .inl (cI, 451, .inl (fun _ => 0))), (q_14, .inl (cI, 64, .inl (fun _ => 0))), (q_15, .inl (cI, 301, .inl (fun _ => 0)))] := hD
  refine lv_aload_n hx hb dX6_init_147 rfl (lv_at hl 0 rfl) ?_
  refine lv_sipush (v := 301) hx hb dX6_init_148 (by decide) ?_
  refine W.eq (g2 := F0 m 151 ls (.int (nI 301) :: [.ref mo])) rfl ?_
  refine va_newI hx hb w_3 hK 0 rfl hP hD hS hA (k := 301) (by decide) (show 15 + 1 ≤ 17 by omega) (show 48674 + 301 ≤ 49276 by omega) dX6_init_151 (fun q_16 H hP hD hS => ?_)
  have hP : va_P D vwCl [(mo, .inr (6, [.int 0, .ref q_1, .ref q_2, .int 0, .int 0, .ref q_3, .ref q_4, .int 0, .int 0, .int 0, .ref q_5, .ref q_6, .ref q_7, .ref q_8, .ref q_9, .ref q_10, .ref q_11, .ref q_12, .int 0, .ref q_13, .ref q_14, .int 2, .int 1, .ref q_15, .null, .null, .int 0, .int 0])), (q_1, .inl (cI, 150, .inl (fun _ => 0))), (q_2, .inl (cI, 300, .inl (fun _ => 0))), (q_3, .inl (cI, 150, .inl (fun _ => 0))), (q_4, .inl (cI, 300, .inl (fun _ => 0))), (q_5, .inl (cI, 301, .inl (fun _ => 0))), (q_6, .inl (cI, 301, .inl (fun _ => 0))), (q_7, .inl (cI, 301, .inl (fun _ => 0))), (q_8, .inl (cI, 151, .inl (fun _ => 0))), (q_9, .inl (cI, 151, .inl (fun _ => 0))), (q_10, .inl (cI, 151, .inl (fun _ => 0))), (q_11, .inl (cI, 151, .inl (fun _ => 0))), (q_12, .inl (cI, 45451, .inl (fun _ => 0))), (q_13, .inl (cI, 451, .inl (fun _ => 0))), (q_14, .inl (cI, 64, .inl (fun _ => 0))), (q_15, .inl (cI, 301, .inl (fun _ => 0))), (q_16, .inl (cI, 301, .inl (fun _ => 0)))] H := hP
  have hD : va_D A [(mo, .inr (6, [.int 0, .ref q_1, .ref q_2, .int 0, .int 0, .ref q_3, .ref q_4, .int 0, .int 0, .int 0, .ref q_5, .ref q_6, .ref q_7, .ref q_8, .ref q_9, .ref q_10, .ref q_11, .ref q_12, .int 0, .ref q_13, .ref q_14, .int 2, .int 1, .ref q_15, .null, .null, .int 0, .int 0])), (q_1, .inl (cI, 150, .inl (fun _ => 0))), (q_2, .inl (cI, 300, .inl (fun _ => 0))), (q_3, .inl (cI, 150, .inl (fun _ => 0))), (q_4, .inl (cI, 300, .inl (fun _ => 0))), (q_5, .inl (cI, 301, .inl (fun _ => 0))), (q_6, .inl (cI, 301, .inl (fun _ => 0))), (q_7, .inl (cI, 301, .inl (fun _ => 0))), (q_8, .inl (cI, 151, .inl (fun _ => 0))), (q_9, .inl (cI, 151, .inl (fun _ => 0))), (q_10, .inl (cI, 151, .inl (fun _ => 0))), (q_11, .inl (cI, 151, .inl (fun _ => 0))), (q_12, .inl (cI, 45451, .inl (fun _ => 0))), (q_13, .inl (cI, 451, .inl (fun _ => 0))), (q_14, .inl (cI, 64, .inl (fun _ => 0))), (q_15, .inl (cI, 301, .inl (fun _ => 0))), (q_16, .inl (cI, 301, .inl (fun _ => 0)))] := hD
  refine va_putF (D := D) (ci := 6) (v := .ref q_16) (ty := (.array .int)) (C := RX6) (T := TX6) (N := 28) hx hb hts i_X6 tyX6 tyX6_ok nmX6 hown hK hP hD hS 0 rfl rfl 24 (by decide) w_23 (fun _ h9 => h9) rfl hin rfl (by decide +kernel) rfl rfl (Nat.le_of_ble_eq_true rfl) dX6_init_153 (fun H locs hP hD hS => ?_)
  have hP : va_P D vwCl [(mo, .inr (6, [.int 0, .ref q_1, .ref q_2, .int 0, .int 0, .ref q_3, .ref q_4, .int 0, .int 0, .int 0, .ref q_5, .ref q_6, .ref q_7, .ref q_8, .ref q_9, .ref q_10, .ref q_11, .ref q_12, .int 0, .ref q_13, .ref q_14, .int 2, .int 1, .ref q_15, .ref q_16, .null, .int 0, .int 0])), (q_1, .inl (cI, 150, .inl (fun _ => 0))), (q_2, .inl (cI, 300, .inl (fun _ => 0))), (q_3, .inl (cI, 150, .inl (fun _ => 0))), (q_4, .inl (cI, 300, .inl (fun _ => 0))), (q_5, .inl (cI, 301, .inl (fun _ => 0))), (q_6, .inl (cI, 301, .inl (fun _ => 0))), (q_7, .inl (cI, 301, .inl (fun _ => 0))), (q_8, .inl (cI, 151, .inl (fun _ => 0))), (q_9, .inl (cI, 151, .inl (fun _ => 0))), (q_10, .inl (cI, 151, .inl (fun _ => 0))), (q_11, .inl (cI, 151, .inl (fun _ => 0))), (q_12, .inl (cI, 45451, .inl (fun _ => 0))), (q_13, .inl (cI, 451, .inl (fun _ => 0))), (q_14, .inl (cI, 64, .inl (fun _ => 0))), (q_15, .inl (cI, 301, .inl (fun _ => 0))), (q_16, .inl (cI, 301, .inl (fun _ => 0)))] H := hP
  have hD : va_D A [(mo, .inr (6, [.int 0, .ref q_1, .ref q_2, .int 0, .int 0, .ref q_3, .ref q_4, .int 0, .int 0, .int 0, .ref q_5, .ref q_6, .ref q_7, .ref q_8, .ref q_9, .ref q_10, .ref q_11, .ref q_12, .int 0, .ref q_13, .ref q_14, .int 2, .int 1, .ref q_15, .ref q_16, .null, .int 0, .int 0])), (q_1, .inl (cI, 150, .inl (fun _ => 0))), (q_2, .inl (cI, 300, .inl (fun _ => 0))), (q_3, .inl (cI, 150, .inl (fun _ => 0))), (q_4, .inl (cI, 300, .inl (fun _ => 0))), (q_5, .inl (cI, 301, .inl (fun _ => 0))), (q_6, .inl (cI, 301, .inl (fun _ => 0))), (q_7, .inl (cI, 301, .inl (fun _ => 0))), (q_8, .inl (cI, 151, .inl (fun _ => 0))), (q_9, .inl (cI, 151, .inl (fun _ => 0))), (q_10, .inl (cI, 151, .inl (fun _ => 0))), (q_11, .inl (cI, 151, .inl (fun _ => 0))), (q_12, .inl (cI, 45451, .inl (fun _ => 0))), (q_13, .inl (cI, 451, .inl (fun _ => 0))), (q_14, .inl (cI, 64, .inl (fun _ => 0))), (q_15, .inl (cI, 301, .inl (fun _ => 0))), (q_16, .inl (cI, 301, .inl (fun _ => 0)))] := hD
  refine lv_aload_n hx hb dX6_init_156 rfl (lv_at hl 0 rfl) ?_
  refine lv_sipush (v := 301) hx hb dX6_init_157 (by decide) ?_
  refine W.eq (g2 := F0 m 160 ls (.int (nI 301) :: [.ref mo])) rfl ?_
  refine va_newI hx hb w_3 hK 0 rfl hP hD hS hA (k := 301) (by decide) (show 16 + 1 ≤ 17 by omega) (show 48975 + 301 ≤ 49276 by omega) dX6_init_160 (fun q_17 H hP hD hS => ?_)
  have hP : va_P D vwCl [(mo, .inr (6, [.int 0, .ref q_1, .ref q_2, .int 0, .int 0, .ref q_3, .ref q_4, .int 0, .int 0, .int 0, .ref q_5, .ref q_6, .ref q_7, .ref q_8, .ref q_9, .ref q_10, .ref q_11, .ref q_12, .int 0, .ref q_13, .ref q_14, .int 2, .int 1, .ref q_15, .ref q_16, .null, .int 0, .int 0])), (q_1, .inl (cI, 150, .inl (fun _ => 0))), (q_2, .inl (cI, 300, .inl (fun _ => 0))), (q_3, .inl (cI, 150, .inl (fun _ => 0))), (q_4, .inl (cI, 300, .inl (fun _ => 0))), (q_5, .inl (cI, 301, .inl (fun _ => 0))), (q_6, .inl (cI, 301, .inl (fun _ => 0))), (q_7, .inl (cI, 301, .inl (fun _ => 0))), (q_8, .inl (cI, 151, .inl (fun _ => 0))), (q_9, .inl (cI, 151, .inl (fun _ => 0))), (q_10, .inl (cI, 151, .inl (fun _ => 0))), (q_11, .inl (cI, 151, .inl (fun _ => 0))), (q_12, .inl (cI, 45451, .inl (fun _ => 0))), (q_13, .inl (cI, 451, .inl (fun _ => 0))), (q_14, .inl (cI, 64, .inl (fun _ => 0))), (q_15, .inl (cI, 301, .inl (fun _ => 0))), (q_16, .inl (cI, 301, .inl (fun _ => 0))), (q_17, .inl (cI, 301, .inl (fun _ => 0)))] H := hP
  have hD : va_D A [(mo, .inr (6, [.int 0, .ref q_1, .ref q_2, .int 0, .int 0, .ref q_3, .ref q_4, .int 0, .int 0, .int 0, .ref q_5, .ref q_6, .ref q_7, .ref q_8, .ref q_9, .ref q_10, .ref q_11, .ref q_12, .int 0, .ref q_13, .ref q_14, .int 2, .int 1, .ref q_15, .ref q_16, .null, .int 0, .int 0])), (q_1, .inl (cI, 150, .inl (fun _ => 0))), (q_2, .inl (cI, 300, .inl (fun _ => 0))), (q_3, .inl (cI, 150, .inl (fun _ => 0))), (q_4, .inl (cI, 300, .inl (fun _ => 0))), (q_5, .inl (cI, 301, .inl (fun _ => 0))), (q_6, .inl (cI, 301, .inl (fun _ => 0))), (q_7, .inl (cI, 301, .inl (fun _ => 0))), (q_8, .inl (cI, 151, .inl (fun _ => 0))), (q_9, .inl (cI, 151, .inl (fun _ => 0))), (q_10, .inl (cI, 151, .inl (fun _ => 0))), (q_11, .inl (cI, 151, .inl (fun _ => 0))), (q_12, .inl (cI, 45451, .inl (fun _ => 0))), (q_13, .inl (cI, 451, .inl (fun _ => 0))), (q_14, .inl (cI, 64, .inl (fun _ => 0))), (q_15, .inl (cI, 301, .inl (fun _ => 0))), (q_16, .inl (cI, 301, .inl (fun _ => 0))), (q_17, .inl (cI, 301, .inl (fun _ => 0)))] := hD
  refine va_putF (D := D) (ci := 6) (v := .ref q_17) (ty := (.array .int)) (C := RX6) (T := TX6) (N := 28) hx hb hts i_X6 tyX6 tyX6_ok nmX6 hown hK hP hD hS 0 rfl rfl 25 (by decide) w_24 (fun _ h9 => h9) rfl hin rfl (by decide +kernel) rfl rfl (Nat.le_of_ble_eq_true rfl) dX6_init_162 (fun H locs hP hD hS => ?_)
  have hP : va_P D vwCl [(mo, .inr (6, [.int 0, .ref q_1, .ref q_2, .int 0, .int 0, .ref q_3, .ref q_4, .int 0, .int 0, .int 0, .ref q_5, .ref q_6, .ref q_7, .ref q_8, .ref q_9, .ref q_10, .ref q_11, .ref q_12, .int 0, .ref q_13, .ref q_14, .int 2, .int 1, .ref q_15, .ref q_16, .ref q_17, .int 0, .int 0])), (q_1, .inl (cI, 150, .inl (fun _ => 0))), (q_2, .inl (cI, 300, .inl (fun _ => 0))), (q_3, .inl (cI, 150, .inl (fun _ => 0))), (q_4, .inl (cI, 300, .inl (fun _ => 0))), (q_5, .inl (cI, 301, .inl (fun _ => 0))), (q_6, .inl (cI, 301, .inl (fun _ => 0))), (q_7, .inl (cI, 301, .inl (fun _ => 0))), (q_8, .inl (cI, 151, .inl (fun _ => 0))), (q_9, .inl (cI, 151, .inl (fun _ => 0))), (q_10, .inl (cI, 151, .inl (fun _ => 0))), (q_11, .inl (cI, 151, .inl (fun _ => 0))), (q_12, .inl (cI, 45451, .inl (fun _ => 0))), (q_13, .inl (cI, 451, .inl (fun _ => 0))), (q_14, .inl (cI, 64, .inl (fun _ => 0))), (q_15, .inl (cI, 301, .inl (fun _ => 0))), (q_16, .inl (cI, 301, .inl (fun _ => 0))), (q_17, .inl (cI, 301, .inl (fun _ => 0)))] H := hP
  have hD : va_D A [(mo, .inr (6, [.int 0, .ref q_1, .ref q_2, .int 0, .int 0, .ref q_3, .ref q_4, .int 0, .int 0, .int 0, .ref q_5, .ref q_6, .ref q_7, .ref q_8, .ref q_9, .ref q_10, .ref q_11, .ref q_12, .int 0, .ref q_13, .ref q_14, .int 2, .int 1, .ref q_15, .ref q_16, .ref q_17, .int 0, .int 0])), (q_1, .inl (cI, 150, .inl (fun _ => 0))), (q_2, .inl (cI, 300, .inl (fun _ => 0))), (q_3, .inl (cI, 150, .inl (fun _ => 0))), (q_4, .inl (cI, 300, .inl (fun _ => 0))), (q_5, .inl (cI, 301, .inl (fun _ => 0))), (q_6, .inl (cI, 301, .inl (fun _ => 0))), (q_7, .inl (cI, 301, .inl (fun _ => 0))), (q_8, .inl (cI, 151, .inl (fun _ => 0))), (q_9, .inl (cI, 151, .inl (fun _ => 0))), (q_10, .inl (cI, 151, .inl (fun _ => 0))), (q_11, .inl (cI, 151, .inl (fun _ => 0))), (q_12, .inl (cI, 45451, .inl (fun _ => 0))), (q_13, .inl (cI, 451, .inl (fun _ => 0))), (q_14, .inl (cI, 64, .inl (fun _ => 0))), (q_15, .inl (cI, 301, .inl (fun _ => 0))), (q_16, .inl (cI, 301, .inl (fun _ => 0))), (q_17, .inl (cI, 301, .inl (fun _ => 0)))] := hD
  refine lv_iconst (v := 0) hx hb dX6_init_165 (by decide) ?_
  refine lv_istore_n (lv' := [(1, .int 0), (0, .ref mo)]) hx hb dX6_init_166 rfl hl (by decide) rfl (fun ls hl => ?_)
  refine hv_loop (fun zz H locs ls => ∃ (k : Nat), k ≤ 64 ∧ zz = 64 - k ∧ va_P D vwCl [(mo, .inr (6, [.int 0, .ref q_1, .ref q_2, .int 0, .int 0, .ref q_3, .ref q_4, .int 0, .int 0, .int 0, .ref q_5, .ref q_6, .ref q_7, .ref q_8, .ref q_9, .ref q_10, .ref q_11, .ref q_12, .int 0, .ref q_13, .ref q_14, .int 2, .int 1, .ref q_15, .ref q_16, .ref q_17, .int 0, .int 0])), (q_1, .inl (cI, 150, .inl (fun _ => 0))), (q_2, .inl (cI, 300, .inl (fun _ => 0))), (q_3, .inl (cI, 150, .inl (fun _ => 0))), (q_4, .inl (cI, 300, .inl (fun _ => 0))), (q_5, .inl (cI, 301, .inl (fun _ => 0))), (q_6, .inl (cI, 301, .inl (fun _ => 0))), (q_7, .inl (cI, 301, .inl (fun _ => 0))), (q_8, .inl (cI, 151, .inl (fun _ => 0))), (q_9, .inl (cI, 151, .inl (fun _ => 0))), (q_10, .inl (cI, 151, .inl (fun _ => 0))), (q_11, .inl (cI, 151, .inl (fun _ => 0))), (q_12, .inl (cI, 45451, .inl (fun _ => 0))), (q_13, .inl (cI, 451, .inl (fun _ => 0))), (q_14, .inl (cI, 64, .inl (sc0 k))), (q_15, .inl (cI, 301, .inl (fun _ => 0))), (q_16, .inl (cI, 301, .inl (fun _ => 0))), (q_17, .inl (cI, 301, .inl (fun _ => 0)))] H ∧ va_D A [(mo, .inr (6, [.int 0, .ref q_1, .ref q_2, .int 0, .int 0, .ref q_3, .ref q_4, .int 0, .int 0, .int 0, .ref q_5, .ref q_6, .ref q_7, .ref q_8, .ref q_9, .ref q_10, .ref q_11, .ref q_12, .int 0, .ref q_13, .ref q_14, .int 2, .int 1, .ref q_15, .ref q_16, .ref q_17, .int 0, .int 0])), (q_1, .inl (cI, 150, .inl (fun _ => 0))), (q_2, .inl (cI, 300, .inl (fun _ => 0))), (q_3, .inl (cI, 150, .inl (fun _ => 0))), (q_4, .inl (cI, 300, .inl (fun _ => 0))), (q_5, .inl (cI, 301, .inl (fun _ => 0))), (q_6, .inl (cI, 301, .inl (fun _ => 0))), (q_7, .inl (cI, 301, .inl (fun _ => 0))), (q_8, .inl (cI, 151, .inl (fun _ => 0))), (q_9, .inl (cI, 151, .inl (fun _ => 0))), (q_10, .inl (cI, 151, .inl (fun _ => 0))), (q_11, .inl (cI, 151, .inl (fun _ => 0))), (q_12, .inl (cI, 45451, .inl (fun _ => 0))), (q_13, .inl (cI, 451, .inl (fun _ => 0))), (q_14, .inl (cI, 64, .inl (sc0 k))), (q_15, .inl (cI, 301, .inl (fun _ => 0))), (q_16, .inl (cI, 301, .inl (fun _ => 0))), (q_17, .inl (cI, 301, .inl (fun _ => 0)))] ∧ va_S A s.heap H locs ∧ lv_has ls 2 [(0, .ref mo), (1, .int (nI k))]) ?_ _ ⟨0, by omega, rfl, by rw [sc0_0]; exact hP, by rw [sc0_0]; exact hD, hS, lv_sub hl [1, 0] rfl⟩
  intro zz_167 H locs ls hI ih_167
  obtain ⟨k, hk, hzz_167, hP, hD, hS, hl⟩ := hI
  refine lv_iload_n hx hb dX6_init_167 rfl (lv_at hl 1 rfl) ?_
  refine lv_bipush (v := 64) hx hb dX6_init_168 (by decide) ?_
  refine lv_icmp_ge (tgt := 201) hx hb dX6_init_170 (by decide) (fun c_170 => ?_) (fun c_170 => ?_)
  · have k_170 : 64 ≤ k := (nI_leI (a := 64) (b := k) (by omega) (by omega)).mp c_170
    refine W.widen (k := 17) (n := 49276) (by omega) (by omega) ?_
    have ek : k = 64 := by omega
    rw [ek] at hP hD
    exact fin_v (q_1, q_2, q_3, q_4, q_5, q_6, q_7, q_8, q_9, q_10, q_11, q_12, q_13, q_14, q_15, q_16, q_17) hx hb hr hlocks dX6_init_201 hK hS (hP.sub [0, 1, 2, 3, 4, 5, 6, 7, 8, 9, 10, 11, 12, 13, 14, 15, 16, 17] rfl) (hD.sub [0, 1, 2, 3, 4, 5, 6, 7, 8, 9, 10, 11, 12, 13, 14, 15, 16, 17] (by decide) rfl) trivial
  · have k_170 : ¬ (64 ≤ k) := fun q => c_170 ((nI_leI (a := 64) (b := k) (by omega) (by omega)).mpr q)
    refine lv_aload_n hx hb dX6_init_173 rfl (lv_at hl 0 rfl) ?_
    refine va_get (D := D) (ci := 6) (v := .ref q_14) (C := RX6) (T := TX6) (N := 28) hx hb hts i_X6 hown hK hP 0 rfl rfl 20 (by decide) w_19 (fun _ h9 => h9) rfl dX6_init_174 ?_
    refine lv_iload_n hx hb dX6_init_177 rfl (lv_at hl 1 rfl) ?_
    refine lv_iload_n hx hb dX6_init_178 rfl (lv_at hl 1 rfl) ?_
    refine lv_bipush (v := 8) hx hb dX6_init_179 (by decide) ?_
    refine lv_idiv hx hb dX6_init_181 (by decide) ?_
    refine lv_cv (y := nI (k / 8)) (pk_div (a := k) (d := 8) (by omega) (by omega) (by omega)) ?_
    refine lv_iload_n hx hb dX6_init_182 rfl (lv_at hl 1 rfl) ?_
    refine lv_bipush (v := 8) hx hb dX6_init_183 (by decide) ?_
    refine lv_irem hx hb dX6_init_185 (by decide) ?_
    refine lv_cv (y := nI (k % 8)) (pk_rem (a := k) (d := 8) (by omega) (by omega) (by omega)) ?_
    refine hv_join 194 (fun H1 locs1 ls1 st1 => ∃ v9 : Int32, (v9 = if k / 8 = k % 8 then (1 : Int32) else -1) ∧ Value.int v9 :: [.int (nI k), .ref q_14] = st1 ∧ H = H1 ∧ locs = locs1 ∧ ls = ls1) ?_ ?_
    · rintro H1 locs1 ls1 st1 ⟨v9, ev9, rfl, rfl, rfl, rfl⟩
      refine va_iastN hx hb hK hP hD hS 14 0 rfl rfl (k := k) (x := v9) (by omega) (by decide) dX6_init_194 (fun H locs hP hD hS => ?_)
      have hP : va_P D vwCl [(mo, .inr (6, [.int 0, .ref q_1, .ref q_2, .int 0, .int 0, .ref q_3, .ref q_4, .int 0, .int 0, .int 0, .ref q_5, .ref q_6, .ref q_7, .ref q_8, .ref q_9, .ref q_10, .ref q_11, .ref q_12, .int 0, .ref q_13, .ref q_14, .int 2, .int 1, .ref q_15, .ref q_16, .ref q_17, .int 0, .int 0])), (q_1, .inl (cI, 150, .inl (fun _ => 0))), (q_2, .inl (cI, 300, .inl (fun _ => 0))), (q_3, .inl (cI, 150, .inl (fun _ => 0))), (q_4, .inl (cI, 300, .inl (fun _ => 0))), (q_5, .inl (cI, 301, .inl (fun _ => 0))), (q_6, .inl (cI, 301, .inl (fun _ => 0))), (q_7, .inl (cI, 301, .inl (fun _ => 0))), (q_8, .inl (cI, 151, .inl (fun _ => 0))), (q_9, .inl (cI, 151, .inl (fun _ => 0))), (q_10, .inl (cI, 151, .inl (fun _ => 0))), (q_11, .inl (cI, 151, .inl (fun _ => 0))), (q_12, .inl (cI, 45451, .inl (fun _ => 0))), (q_13, .inl (cI, 451, .inl (fun _ => 0))), (q_14, .inl (cI, 64, .inl (upd (sc0 k) k v9))), (q_15, .inl (cI, 301, .inl (fun _ => 0))), (q_16, .inl (cI, 301, .inl (fun _ => 0))), (q_17, .inl (cI, 301, .inl (fun _ => 0)))] H := hP
      have hD : va_D A [(mo, .inr (6, [.int 0, .ref q_1, .ref q_2, .int 0, .int 0, .ref q_3, .ref q_4, .int 0, .int 0, .int 0, .ref q_5, .ref q_6, .ref q_7, .ref q_8, .ref q_9, .ref q_10, .ref q_11, .ref q_12, .int 0, .ref q_13, .ref q_14, .int 2, .int 1, .ref q_15, .ref q_16, .ref q_17, .int 0, .int 0])), (q_1, .inl (cI, 150, .inl (fun _ => 0))), (q_2, .inl (cI, 300, .inl (fun _ => 0))), (q_3, .inl (cI, 150, .inl (fun _ => 0))), (q_4, .inl (cI, 300, .inl (fun _ => 0))), (q_5, .inl (cI, 301, .inl (fun _ => 0))), (q_6, .inl (cI, 301, .inl (fun _ => 0))), (q_7, .inl (cI, 301, .inl (fun _ => 0))), (q_8, .inl (cI, 151, .inl (fun _ => 0))), (q_9, .inl (cI, 151, .inl (fun _ => 0))), (q_10, .inl (cI, 151, .inl (fun _ => 0))), (q_11, .inl (cI, 151, .inl (fun _ => 0))), (q_12, .inl (cI, 45451, .inl (fun _ => 0))), (q_13, .inl (cI, 451, .inl (fun _ => 0))), (q_14, .inl (cI, 64, .inl (upd (sc0 k) k v9))), (q_15, .inl (cI, 301, .inl (fun _ => 0))), (q_16, .inl (cI, 301, .inl (fun _ => 0))), (q_17, .inl (cI, 301, .inl (fun _ => 0)))] := hD
      refine lv_iinc (v := nI (k + 1)) (lv' := [(1, .int (nI (k + 1))), (0, .ref mo)]) hx hb dX6_init_195 hl (k := 1) rfl (nI_add k 1) (by decide) rfl (fun ls hl => ?_)
      refine lv_goto (tgt := 167) hx hb dX6_init_198 (by decide) ?_
      have e9 := sc0_s ev9
      exact ih_167 (64 - (k + 1)) _ _ _ (by omega) ⟨k + 1, by omega, rfl, by rw [← e9]; exact hP, by rw [← e9]; exact hD, hS, lv_sub hl [1, 0] rfl⟩
    · intro hj_18
      refine lv_icmp_ne (tgt := 193) hx hb dX6_init_186 (by decide) (fun c_186 => ?_) (fun c_186 => ?_)
      · have k_186 : ¬ (k / 8 = k % 8) := fun q => c_186 ((nI_eq (a := k / 8) (b := k % 8) (by omega) (by omega)).mpr q)
        refine lv_iconst (v := (-1)) hx hb dX6_init_193 (by decide) ?_
        exact hj_18 _ _ _ _ ⟨(-1), (if_neg k_186).symm, rfl, rfl, rfl, rfl⟩
      · have k_186 : k / 8 = k % 8 := (nI_eq (a := k / 8) (b := k % 8) (by omega) (by omega)).mp c_186
        refine lv_iconst (v := 1) hx hb dX6_init_189 (by decide) ?_
        refine lv_goto (tgt := 194) hx hb dX6_init_190 (by decide) ?_
        exact hj_18 _ _ _ _ ⟨1, (if_pos k_186).symm, rfl, rfl, rfl, rfl⟩
