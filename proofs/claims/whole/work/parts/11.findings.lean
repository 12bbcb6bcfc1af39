set_option maxHeartbeats 4000000 in
set_option maxRecDepth 100000 in
theorem c_X0_size (l : Launch) (D : va_G) (cI cJ cL : ClassId) (sz : Nat) (g : Nat) (gp : Nat) (gpa : Nat) (gt : Nat) (gta : Nat) (ge : Nat) (gd : Nat) (gs : Nat) (gn : Nat) (gl : Nat) (om : Nat) (on : Nat) (cnt : Nat) (op : Nat → Int32) (ot : Nat → Int32) (fe : Nat → Int32) (fd : Nat → Int32) (fs : Nat → Int32) (fn : Nat → Int32) (fl : Nat → Int32)  :
    Met l yX0_size wsX0_size { frames := 0, cells := 0, slots := 0, locals := 0 } (va_Pc [.ref g] (Wd D [(cI, .int), (cJ, .array .int), (cL, .long)] [(g, .inr (0, [.ref gp, .ref gt, .ref ge, .ref gd, .ref gs, .int (nI cnt), .ref gn, .ref gl])), (gp, .inr (4, [.ref gpa, .int (nI om)])), (gpa, .inl (cI, 150, .inl op)), (gt, .inr (4, [.ref gta, .int (nI on)])), (gta, .inl (cI, 300, .inl ot)), (ge, .inl (cI, 301, .inl fe)), (gd, .inl (cI, 301, .inl fd)), (gs, .inl (cI, 301, .inl fs)), (gn, .inl (cI, 151, .inl fn)), (gl, .inl (cI, 151, .inl fl))] sz))
      (va_Qi (fun (r : Int32) (_ : Unit) => r = nI cnt) (fun _ => Wa D [(cI, .int), (cJ, .array .int), (cL, .long)] (va_A [(g, .inr (0, [.ref gp, .ref gt, .ref ge, .ref gd, .ref gs, .int (nI cnt), .ref gn, .ref gl])), (gp, .inr (4, [.ref gpa, .int (nI om)])), (gpa, .inl (cI, 150, .inl op)), (gt, .inr (4, [.ref gta, .int (nI on)])), (gta, .inl (cI, 300, .inl ot)), (ge, .inl (cI, 301, .inl fe)), (gd, .inl (cI, 301, .inl fd)), (gs, .inl (cI, 301, .inl fs)), (gn, .inl (cI, 151, .inl fn)), (gl, .inl (cI, 151, .inl fl))] sz) ([(g, .inr (0, [.ref gp, .ref gt, .ref ge, .ref gd, .ref gs, .int (nI cnt), .ref gn, .ref gl])), (gp, .inr (4, [.ref gpa, .int (nI om)])), (gpa, .inl (cI, 150, .inl op)), (gt, .inr (4, [.ref gta, .int (nI on)])), (gta, .inl (cI, 300, .inl ot)), (ge, .inl (cI, 301, .inl fe)), (gd, .inl (cI, 301, .inl fd)), (gs, .inl (cI, 301, .inl fs)), (gn, .inl (cI, 151, .inl fn)), (gl, .inl (cI, 151, .inl fl))])) (va_A [(g, .inr (0, [.ref gp, .ref gt, .ref ge, .ref gd, .ref gs, .int (nI cnt), .ref gn, .ref gl])), (gp, .inr (4, [.ref gpa, .int (nI om)])), (gpa, .inl (cI, 150, .inl op)), (gt, .inr (4, [.ref gta, .int (nI on)])), (gta, .inl (cI, 300, .inl ot)), (ge, .inl (cI, 301, .inl fe)), (gd, .inl (cI, 301, .inl fd)), (gs, .inl (cI, 301, .inl fs)), (gn, .inl (cI, 151, .inl fn)), (gl, .inl (cI, 151, .inl fl))] sz)) 0 0 (va_A [(g, .inr (0, [.ref gp, .ref gt, .ref ge, .ref gd, .ref gs, .int (nI cnt), .ref gn, .ref gl])), (gp, .inr (4, [.ref gpa, .int (nI om)])), (gpa, .inl (cI, 150, .inl op)), (gt, .inr (4, [.ref gta, .int (nI on)])), (gta, .inl (cI, 300, .inl ot)), (ge, .inl (cI, 301, .inl fe)), (gd, .inl (cI, 301, .inl fd)), (gs, .inl (cI, 301, .inl fs)), (gn, .inl (cI, 151, .inl fn)), (gl, .inl (cI, 151, .inl fl))] sz) := by
  refine Met.ofW (cc := cX0_size) (maxL := 1) (ret := (some .int)) (by decide) rfl ?_
  intro p e s m args below meth c s₁ B hml hv
  obtain ⟨rfl, hsz, hP, hK, hD0⟩ := hv
  have hx := B.exec
  have hb := B.bytes
  have hr := B.returns
  have hts := atoms_spec (ws := wsX0_size) B.pre
  have hown : s.vm.findClass RX0 = some m.cls := findClass_of_methodNamed B.named
  have hlocks := B.notSynchronized
  subst hsz
  have hD := hD0.self (sz := s.heap.size)
  generalize hAe : va_A [(g, .inr (0, [.ref gp, .ref gt, .ref ge, .ref gd, .ref gs, .int (nI cnt), .ref gn, .ref gl])), (gp, .inr (4, [.ref gpa, .int (nI om)])), (gpa, .inl (cI, 150, .inl op)), (gt, .inr (4, [.ref gta, .int (nI on)])), (gta, .inl (cI, 300, .inl ot)), (ge, .inl (cI, 301, .inl fe)), (gd, .inl (cI, 301, .inl fd)), (gs, .inl (cI, 301, .inl fs)), (gn, .inl (cI, 151, .inl fn)), (gl, .inl (cI, 151, .inl fl))] s.heap.size = A at hD ⊢
  have hA : ∀ q : Nat, s.heap.size ≤ q → A q := fun q h => by rw [← hAe]; exact Or.inr h
  have hl := lv_entry ([.ref g]) (n := 1) (Nat.le_of_ble_eq_true rfl)
  rw [lg_entry_eq]
  generalize (lg_sl ([.ref g]) ++ List.replicate (1 - (lg_sl ([.ref g])).length) Slot.unset).toArray = ls at hl ⊢
  have hl : lv_has ls 1 [(0, .ref g)] := hl
  refine hv_start (A := A) (ws := [(g, .inr (0, [.ref gp, .ref gt, .ref ge, .ref gd, .ref gs, .int (nI cnt), .ref gn, .ref gl])), (gp, .inr (4, [.ref gpa, .int (nI om)])), (gpa, .inl (cI, 150, .inl op)), (gt, .inr (4, [.ref gta, .int (nI on)])), (gta, .inl (cI, 300, .inl ot)), (ge, .inl (cI, 301, .inl fe)), (gd, .inl (cI, 301, .inl fd)), (gs, .inl (cI, 301, .inl fs)), (gn, .inl (cI, 151, .inl fn)), (gl, .inl (cI, 151, .inl fl))]) hP (fun H locs hP hS => ?_)
  have w_0 := hts (.fieldLink RX0 33 "TextAligner$Findings" "size" "I") (by decide +kernel)
  have i_X0 : ∀ w ∈ wsX00, w ∈ wsX0_size := by decide +kernel
  refine lv_aload_n hx hb dX0_size_0 rfl (lv_at hl 0 rfl) ?_
  refine va_get (D := D) (ci := 0) (v := .int (nI cnt)) (C := RX0) (T := TX0) (N := 8) hx hb hts i_X0 hown hK hP 0 rfl rfl 5 (by decide) w_0 (fun _ h9 => h9) rfl dX0_size_1 ?_
  exact fin_i () hx hb hr hlocks dX0_size_4 hK hS hP hD rfl

set_option maxHeartbeats 4000000 in
set_option maxRecDepth 100000 in
theorem c_X0_endOf (l : Launch) (D : va_G) (cI cJ cL : ClassId) (sz : Nat) (g : Nat) (gp : Nat) (gpa : Nat) (gt : Nat) (gta : Nat) (ge : Nat) (gd : Nat) (gs : Nat) (gn : Nat) (gl : Nat) (om : Nat) (on : Nat) (cnt : Nat) (op : Nat → Int32) (ot : Nat → Int32) (fe : Nat → Int32) (fd : Nat → Int32) (fs : Nat → Int32) (fn : Nat → Int32) (fl : Nat → Int32) (i : Nat) (hi : i < 301) :
    Met l yX0_endOf wsX0_endOf { frames := 0, cells := 0, slots := 0, locals := 0 } (va_Pc [.ref g, .int (nI i)] (Wd D [(cI, .int), (cJ, .array .int), (cL, .long)] [(g, .inr (0, [.ref gp, .ref gt, .ref ge, .ref gd, .ref gs, .int (nI cnt), .ref gn, .ref gl])), (gp, .inr (4, [.ref gpa, .int (nI om)])), (gpa, .inl (cI, 150, .inl op)), (gt, .inr (4, [.ref gta, .int (nI on)])), (gta, .inl (cI, 300, .inl ot)), (ge, .inl (cI, 301, .inl fe)), (gd, .inl (cI, 301, .inl fd)), (gs, .inl (cI, 301, .inl fs)), (gn, .inl (cI, 151, .inl fn)), (gl, .inl (cI, 151, .inl fl))] sz))
      (va_Qi (fun (r : Int32) (_ : Unit) => r = fe i) (fun _ => Wa D [(cI, .int), (cJ, .array .int), (cL, .long)] (va_A [(g, .inr (0, [.ref gp, .ref gt, .ref ge, .ref gd, .ref gs, .int (nI cnt), .ref gn, .ref gl])), (gp, .inr (4, [.ref gpa, .int (nI om)])), (gpa, .inl (cI, 150, .inl op)), (gt, .inr (4, [.ref gta, .int (nI on)])), (gta, .inl (cI, 300, .inl ot)), (ge, .inl (cI, 301, .inl fe)), (gd, .inl (cI, 301, .inl fd)), (gs, .inl (cI, 301, .inl fs)), (gn, .inl (cI, 151, .inl fn)), (gl, .inl (cI, 151, .inl fl))] sz) ([(g, .inr (0, [.ref gp, .ref gt, .ref ge, .ref gd, .ref gs, .int (nI cnt), .ref gn, .ref gl])), (gp, .inr (4, [.ref gpa, .int (nI om)])), (gpa, .inl (cI, 150, .inl op)), (gt, .inr (4, [.ref gta, .int (nI on)])), (gta, .inl (cI, 300, .inl ot)), (ge, .inl (cI, 301, .inl fe)), (gd, .inl (cI, 301, .inl fd)), (gs, .inl (cI, 301, .inl fs)), (gn, .inl (cI, 151, .inl fn)), (gl, .inl (cI, 151, .inl fl))])) (va_A [(g, .inr (0, [.ref gp, .ref gt, .ref ge, .ref gd, .ref gs, .int (nI cnt), .ref gn, .ref gl])), (gp, .inr (4, [.ref gpa, .int (nI om)])), (gpa, .inl (cI, 150, .inl op)), (gt, .inr (4, [.ref gta, .int (nI on)])), (gta, .inl (cI, 300, .inl ot)), (ge, .inl (cI, 301, .inl fe)), (gd, .inl (cI, 301, .inl fd)), (gs, .inl (cI, 301, .inl fs)), (gn, .inl (cI, 151, .inl fn)), (gl, .inl (cI, 151, .inl fl))] sz)) 0 0 (va_A [(g, .inr (0, [.ref gp, .ref gt, .ref ge, .ref gd, .ref gs, .int (nI cnt), .ref gn, .ref gl])), (gp, .inr (4, [.ref gpa, .int (nI om)])), (gpa, .inl (cI, 150, .inl op)), (gt, .inr (4, [.ref gta, .int (nI on)])), (gta, .inl (cI, 300, .inl ot)), (ge, .inl (cI, 301, .inl fe)), (gd, .inl (cI, 301, .inl fd)), (gs, .inl (cI, 301, .inl fs)), (gn, .inl (cI, 151, .inl fn)), (gl, .inl (cI, 151, .inl fl))] sz) := by
  refine Met.ofW (cc := cX0_endOf) (maxL := 2) (ret := (some .int)) (by decide) rfl ?_
  intro p e s m args below meth c s₁ B hml hv
  obtain ⟨rfl, hsz, hP, hK, hD0⟩ := hv
  have hx := B.exec
  have hb := B.bytes
  have hr := B.returns
  have hts := atoms_spec (ws := wsX0_endOf) B.pre
  have hown : s.vm.findClass RX0 = some m.cls := findClass_of_methodNamed B.named
  have hlocks := B.notSynchronized
  subst hsz
  have hD := hD0.self (sz := s.heap.size)
  generalize hAe : va_A [(g, .inr (0, [.ref gp, .ref gt, .ref ge, .ref gd, .ref gs, .int (nI cnt), .ref gn, .ref gl])), (gp, .inr (4, [.ref gpa, .int (nI om)])), (gpa, .inl (cI, 150, .inl op)), (gt, .inr (4, [.ref gta, .int (nI on)])), (gta, .inl (cI, 300, .inl ot)), (ge, .inl (cI, 301, .inl fe)), (gd, .inl (cI, 301, .inl fd)), (gs, .inl (cI, 301, .inl fs)), (gn, .inl (cI, 151, .inl fn)), (gl, .inl (cI, 151, .inl fl))] s.heap.size = A at hD ⊢
  have hA : ∀ q : Nat, s.heap.size ≤ q → A q := fun q h => by rw [← hAe]; exact Or.inr h
  have hl := lv_entry ([.ref g, .int (nI i)]) (n := 2) (Nat.le_of_ble_eq_true rfl)
  rw [lg_entry_eq]
  generalize (lg_sl ([.ref g, .int (nI i)]) ++ List.replicate (2 - (lg_sl ([.ref g, .int (nI i)])).length) Slot.unset).toArray = ls at hl ⊢
  have hl : lv_has ls 2 [(0, .ref g), (1, .int (nI i))] := hl
  refine hv_start (A := A) (ws := [(g, .inr (0, [.ref gp, .ref gt, .ref ge, .ref gd, .ref gs, .int (nI cnt), .ref gn, .ref gl])), (gp, .inr (4, [.ref gpa, .int (nI om)])), (gpa, .inl (cI, 150, .inl op)), (gt, .inr (4, [.ref gta, .int (nI on)])), (gta, .inl (cI, 300, .inl ot)), (ge, .inl (cI, 301, .inl fe)), (gd, .inl (cI, 301, .inl fd)), (gs, .inl (cI, 301, .inl fs)), (gn, .inl (cI, 151, .inl fn)), (gl, .inl (cI, 151, .inl fl))]) hP (fun H locs hP hS => ?_)
  have w_0 := hts (.fieldLink RX0 23 "TextAligner$Findings" "ends" "[I") (by decide +kernel)
  have i_X0 : ∀ w ∈ wsX00, w ∈ wsX0_endOf := by decide +kernel
  refine lv_aload_n hx hb dX0_endOf_0 rfl (lv_at hl 0 rfl) ?_
  refine va_get (D := D) (ci := 0) (v := .ref ge) (C := RX0) (T := TX0) (N := 8) hx hb hts i_X0 hown hK hP 0 rfl rfl 2 (by decide) w_0 (fun _ h9 => h9) rfl dX0_endOf_1 ?_
  refine lv_iload_n hx hb dX0_endOf_4 rfl (lv_at hl 1 rfl) ?_
  refine va_ialdN hx hb hK hP 5 0 rfl rfl (k := i) (by omega) (by decide) dX0_endOf_5 ?_
  exact fin_i () hx hb hr hlocks dX0_endOf_6 hK hS hP hD rfl

set_option maxHeartbeats 4000000 in
set_option maxRecDepth 100000 in
theorem c_X0_distanceOf (l : Launch) (D : va_G) (cI cJ cL : ClassId) (sz : Nat) (g : Nat) (gp : Nat) (gpa : Nat) (gt : Nat) (gta : Nat) (ge : Nat) (gd : Nat) (gs : Nat) (gn : Nat) (gl : Nat) (om : Nat) (on : Nat) (cnt : Nat) (op : Nat → Int32) (ot : Nat → Int32) (fe : Nat → Int32) (fd : Nat → Int32) (fs : Nat → Int32) (fn : Nat → Int32) (fl : Nat → Int32) (i : Nat) (hi : i < 301) :
    Met l yX0_distanceOf wsX0_distanceOf { frames := 0, cells := 0, slots := 0, locals := 0 } (va_Pc [.ref g, .int (nI i)] (Wd D [(cI, .int), (cJ, .array .int), (cL, .long)] [(g, .inr (0, [.ref gp, .ref gt, .ref ge, .ref gd, .ref gs, .int (nI cnt), .ref gn, .ref gl])), (gp, .inr (4, [.ref gpa, .int (nI om)])), (gpa, .inl (cI, 150, .inl op)), (gt, .inr (4, [.ref gta, .int (nI on)])), (gta, .inl (cI, 300, .inl ot)), (ge, .inl (cI, 301, .inl fe)), (gd, .inl (cI, 301, .inl fd)), (gs, .inl (cI, 301, .inl fs)), (gn, .inl (cI, 151, .inl fn)), (gl, .inl (cI, 151, .inl fl))] sz))
      (va_Qi (fun (r : Int32) (_ : Unit) => r = fd i) (fun _ => Wa D [(cI, .int), (cJ, .array .int), (cL, .long)] (va_A [(g, .inr (0, [.ref gp, .ref gt, .ref ge, .ref gd, .ref gs, .int (nI cnt), .ref gn, .ref gl])), (gp, .inr (4, [.ref gpa, .int (nI om)])), (gpa, .inl (cI, 150, .inl op)), (gt, .inr (4, [.ref gta, .int (nI on)])), (gta, .inl (cI, 300, .inl ot)), (ge, .inl (cI, 301, .inl fe)), (gd, .inl (cI, 301, .inl fd)), (gs, .inl (cI, 301, .inl fs)), (gn, .inl (cI, 151, .inl fn)), (gl, .inl (cI, 151, .inl fl))] sz) ([(g, .inr (0, [.ref gp, .ref gt, .ref ge, .ref gd, .ref gs, .int (nI cnt), .ref gn, .ref gl])), (gp, .inr (4, [.ref gpa, .int (nI om)])), (gpa, .inl (cI, 150, .inl op)), (gt, .inr (4, [.ref gta, .int (nI on)])), (gta, .inl (cI, 300, .inl ot)), (ge, .inl (cI, 301, .inl fe)), (gd, .inl (cI, 301, .inl fd)), (gs, .inl (cI, 301, .inl fs)), (gn, .inl (cI, 151, .inl fn)), (gl, .inl (cI, 151, .inl fl))])) (va_A [(g, .inr (0, [.ref gp, .ref gt, .ref ge, .ref gd, .ref gs, .int (nI cnt), .ref gn, .ref gl])), (gp, .inr (4, [.ref gpa, .int (nI om)])), (gpa, .inl (cI, 150, .inl op)), (gt, .inr (4, [.ref gta, .int (nI on)])), (gta, .inl (cI, 300, .inl ot)), (ge, .inl (cI, 301, .inl fe)), (gd, .inl (cI, 301, .inl fd)), (gs, .inl (cI, 301, .inl fs)), (gn, .inl (cI, 151, .inl fn)), (gl, .inl (cI, 151, .inl fl))] sz)) 0 0 (va_A [(g, .inr (0, [.ref gp, .ref gt, .ref ge, .ref gd, .ref gs, .int (nI cnt), .ref gn, .ref gl])), (gp, .inr (4, [.ref gpa, .int (nI om)])), (gpa, .inl (cI, 150, .inl op)), (gt, .inr (4, [.ref gta, .int (nI on)])), (gta, .inl (cI, 300, .inl ot)), (ge, .inl (cI, 301, .inl fe)), (gd, .inl (cI, 301, .inl fd)), (gs, .inl (cI, 301, .inl fs)), (gn, .inl (cI, 151, .inl fn)), (gl, .inl (cI, 151, .inl fl))] sz) := by
  refine Met.ofW (cc := cX0_distanceOf) (maxL := 2) (ret := (some .int)) (by decide) rfl ?_
  intro p e s m args below meth c s₁ B hml hv
  obtain ⟨rfl, hsz, hP, hK, hD0⟩ := hv
  have hx := B.exec
  have hb := B.bytes
  have hr := B.returns
  have hts := atoms_spec (ws := wsX0_distanceOf) B.pre
  have hown : s.vm.findClass RX0 = some m.cls := findClass_of_methodNamed B.named
  have hlocks := B.notSynchronized
  subst hsz
  have hD := hD0.self (sz := s.heap.size)
  generalize hAe : va_A [(g, .inr (0, [.ref gp, .ref gt, .ref ge, .ref gd, .ref gs, .int (nI cnt), .ref gn, .ref gl])), (gp, .inr (4, [.ref gpa, .int (nI om)])), (gpa, .inl (cI, 150, .inl op)), (gt, .inr (4, [.ref gta, .int (nI on)])), (gta, .inl (cI, 300, .inl ot)), (ge, .inl (cI, 301, .inl fe)), (gd, .inl (cI, 301, .inl fd)), (gs, .inl (cI, 301, .inl fs)), (gn, .inl (cI, 151, .inl fn)), (gl, .inl (cI, 151, .inl fl))] s.heap.size = A at hD ⊢
  have hA : ∀ q : Nat, s.heap.size ≤ q → A q := fun q h => by rw [← hAe]; exact Or.inr h
  have hl := lv_entry ([.ref g, .int (nI i)]) (n := 2) (Nat.le_of_ble_eq_true rfl)
  rw [lg_entry_eq]
  generalize (lg_sl ([.ref g, .int (nI i)]) ++ List.replicate (2 - (lg_sl ([.ref g, .int (nI i)])).length) Slot.unset).toArray = ls at hl ⊢
  have hl : lv_has ls 2 [(0, .ref g), (1, .int (nI i))] := hl
  refine hv_start (A := A) (ws := [(g, .inr (0, [.ref gp, .ref gt, .ref ge, .ref gd, .ref gs, .int (nI cnt), .ref gn, .ref gl])), (gp, .inr (4, [.ref gpa, .int (nI om)])), (gpa, .inl (cI, 150, .inl op)), (gt, .inr (4, [.ref gta, .int (nI on)])), (gta, .inl (cI, 300, .inl ot)), (ge, .inl (cI, 301, .inl fe)), (gd, .inl (cI, 301, .inl fd)), (gs, .inl (cI, 301, .inl fs)), (gn, .inl (cI, 151, .inl fn)), (gl, .inl (cI, 151, .inl fl))]) hP (fun H locs hP hS => ?_)
  have w_0 := hts (.fieldLink RX0 27 "TextAligner$Findings" "distances" "[I") (by decide +kernel)
  have i_X0 : ∀ w ∈ wsX00, w ∈ wsX0_distanceOf := by decide +kernel
  refine lv_aload_n hx hb dX0_distanceOf_0 rfl (lv_at hl 0 rfl) ?_
  refine va_get (D := D) (ci := 0) (v := .ref gd) (C := RX0) (T := TX0) (N := 8) hx hb hts i_X0 hown hK hP 0 rfl rfl 3 (by decide) w_0 (fun _ h9 => h9) rfl dX0_distanceOf_1 ?_
  refine lv_iload_n hx hb dX0_distanceOf_4 rfl (lv_at hl 1 rfl) ?_
  refine va_ialdN hx hb hK hP 6 0 rfl rfl (k := i) (by omega) (by decide) dX0_distanceOf_5 ?_
  exact fin_i () hx hb hr hlocks dX0_distanceOf_6 hK hS hP hD rfl

set_option maxHeartbeats 4000000 in
set_option maxRecDepth 100000 in
theorem c_X0_startOf (l : Launch) (D : va_G) (cI cJ cL : ClassId) (sz : Nat) (g : Nat) (gp : Nat) (gpa : Nat) (gt : Nat) (gta : Nat) (ge : Nat) (gd : Nat) (gs : Nat) (gn : Nat) (gl : Nat) (om : Nat) (on : Nat) (cnt : Nat) (op : Nat → Int32) (ot : Nat → Int32) (fe : Nat → Int32) (fd : Nat → Int32) (fs : Nat → Int32) (fn : Nat → Int32) (fl : Nat → Int32) (i : Nat) (hi : i < 301) :
    Met l yX0_startOf wsX0_startOf { frames := 0, cells := 0, slots := 0, locals := 0 } (va_Pc [.ref g, .int (nI i)] (Wd D [(cI, .int), (cJ, .array .int), (cL, .long)] [(g, .inr (0, [.ref gp, .ref gt, .ref ge, .ref gd, .ref gs, .int (nI cnt), .ref gn, .ref gl])), (gp, .inr (4, [.ref gpa, .int (nI om)])), (gpa, .inl (cI, 150, .inl op)), (gt, .inr (4, [.ref gta, .int (nI on)])), (gta, .inl (cI, 300, .inl ot)), (ge, .inl (cI, 301, .inl fe)), (gd, .inl (cI, 301, .inl fd)), (gs, .inl (cI, 301, .inl fs)), (gn, .inl (cI, 151, .inl fn)), (gl, .inl (cI, 151, .inl fl))] sz))
      (va_Qi (fun (r : Int32) (_ : Unit) => r = fs i) (fun _ => Wa D [(cI, .int), (cJ, .array .int), (cL, .long)] (va_A [(g, .inr (0, [.ref gp, .ref gt, .ref ge, .ref gd, .ref gs, .int (nI cnt), .ref gn, .ref gl])), (gp, .inr (4, [.ref gpa, .int (nI om)])), (gpa, .inl (cI, 150, .inl op)), (gt, .inr (4, [.ref gta, .int (nI on)])), (gta, .inl (cI, 300, .inl ot)), (ge, .inl (cI, 301, .inl fe)), (gd, .inl (cI, 301, .inl fd)), (gs, .inl (cI, 301, .inl fs)), (gn, .inl (cI, 151, .inl fn)), (gl, .inl (cI, 151, .inl fl))] sz) ([(g, .inr (0, [.ref gp, .ref gt, .ref ge, .ref gd, .ref gs, .int (nI cnt), .ref gn, .ref gl])), (gp, .inr (4, [.ref gpa, .int (nI om)])), (gpa, .inl (cI, 150, .inl op)), (gt, .inr (4, [.ref gta, .int (nI on)])), (gta, .inl (cI, 300, .inl ot)), (ge, .inl (cI, 301, .inl fe)), (gd, .inl (cI, 301, .inl fd)), (gs, .inl (cI, 301, .inl fs)), (gn, .inl (cI, 151, .inl fn)), (gl, .inl (cI, 151, .inl fl))])) (va_A [(g, .inr (0, [.ref gp, .ref gt, .ref ge, .ref gd, .ref gs, .int (nI cnt), .ref gn, .ref gl])), (gp, .inr (4, [.ref gpa, .int (nI om)])), (gpa, .inl (cI, 150, .inl op)), (gt, .inr (4, [.ref gta, .int (nI on)])), (gta, .inl (cI, 300, .inl ot)), (ge, .inl (cI, 301, .inl fe)), (gd, .inl (cI, 301, .inl fd)), (gs, .inl (cI, 301, .inl fs)), (gn, .inl (cI, 151, .inl fn)), (gl, .inl (cI, 151, .inl fl))] sz)) 0 0 (va_A [(g, .inr (0, [.ref gp, .ref gt, .ref ge, .ref gd, .ref gs, .int (nI cnt), .ref gn, .ref gl])), (gp, .inr (4, [.ref gpa, .int (nI om)])), (gpa, .inl (cI, 150, .inl op)), (gt, .inr (4, [.ref gta, .int (nI on)])), (gta, .inl (cI, 300, .inl ot)), (ge, .inl (cI, 301, .inl fe)), (gd, .inl (cI, 301, .inl fd)), (gs, .inl (cI, 301, .inl fs)), (gn, .inl (cI, 151, .inl fn)), (gl, .inl (cI, 151, .inl fl))] sz) := by
  refine Met.ofW (cc := cX0_startOf) (maxL := 2) (ret := (some .int)) (by decide) rfl ?_
  intro p e s m args below meth c s₁ B hml hv
  obtain ⟨rfl, hsz, hP, hK, hD0⟩ := hv
  have hx := B.exec
  have hb := B.bytes
  have hr := B.returns
  have hts := atoms_spec (ws := wsX0_startOf) B.pre
  have hown : s.vm.findClass RX0 = some m.cls := findClass_of_methodNamed B.named
  have hlocks := B.notSynchronized
  subst hsz
  have hD := hD0.self (sz := s.heap.size)
  generalize hAe : va_A [(g, .inr (0, [.ref gp, .ref gt, .ref ge, .ref gd, .ref gs, .int (nI cnt), .ref gn, .ref gl])), (gp, .inr (4, [.ref gpa, .int (nI om)])), (gpa, .inl (cI, 150, .inl op)), (gt, .inr (4, [.ref gta, .int (nI on)])), (gta, .inl (cI, 300, .inl ot)), (ge, .inl (cI, 301, .inl fe)), (gd, .inl (cI, 301, .inl fd)), (gs, .inl (cI, 301, .inl fs)), (gn, .inl (cI, 151, .inl fn)), (gl, .inl (cI, 151, .inl fl))] s.heap.size = A at hD ⊢
  have hA : ∀ q : Nat, s.heap.size ≤ q → A q := fun q h => by rw [← hAe]; exact Or.inr h
  have hl := lv_entry ([.ref g, .int (nI i)]) (n := 2) (Nat.le_of_ble_eq_true rfl)
  rw [lg_entry_eq]
  generalize (lg_sl ([.ref g, .int (nI i)]) ++ List.replicate (2 - (lg_sl ([.ref g, .int (nI i)])).length) Slot.unset).toArray = ls at hl ⊢
  have hl : lv_has ls 2 [(0, .ref g), (1, .int (nI i))] := hl
  refine hv_start (A := A) (ws := [(g, .inr (0, [.ref gp, .ref gt, .ref ge, .ref gd, .ref gs, .int (nI cnt), .ref gn, .ref gl])), (gp, .inr (4, [.ref gpa, .int (nI om)])), (gpa, .inl (cI, 150, .inl op)), (gt, .inr (4, [.ref gta, .int (nI on)])), (gta, .inl (cI, 300, .inl ot)), (ge, .inl (cI, 301, .inl fe)), (gd, .inl (cI, 301, .inl fd)), (gs, .inl (cI, 301, .inl fs)), (gn, .inl (cI, 151, .inl fn)), (gl, .inl (cI, 151, .inl fl))]) hP (fun H locs hP hS => ?_)
  have w_0 := hts (.fieldLink RX0 30 "TextAligner$Findings" "starts" "[I") (by decide +kernel)
  have i_X0 : ∀ w ∈ wsX00, w ∈ wsX0_startOf := by decide +kernel
  refine lv_aload_n hx hb dX0_startOf_0 rfl (lv_at hl 0 rfl) ?_
  refine va_get (D := D) (ci := 0) (v := .ref gs) (C := RX0) (T := TX0) (N := 8) hx hb hts i_X0 hown hK hP 0 rfl rfl 4 (by decide) w_0 (fun _ h9 => h9) rfl dX0_startOf_1 ?_
  refine lv_iload_n hx hb dX0_startOf_4 rfl (lv_at hl 1 rfl) ?_
  refine va_ialdN hx hb hK hP 7 0 rfl rfl (k := i) (by omega) (by decide) dX0_startOf_5 ?_
  exact fin_i () hx hb hr hlocks dX0_startOf_6 hK hS hP hD rfl

set_option maxHeartbeats 4000000 in
set_option maxRecDepth 100000 in
theorem c_X0_leastDistance (l : Launch) (D : va_G) (cI cJ cL : ClassId) (sz : Nat) (g : Nat) (gp : Nat) (gpa : Nat) (gt : Nat) (gta : Nat) (ge : Nat) (gd : Nat) (gs : Nat) (gn : Nat) (gl : Nat) (om : Nat) (on : Nat) (cnt : Nat) (op : Nat → Int32) (ot : Nat → Int32) (fe : Nat → Int32) (fd : Nat → Int32) (fs : Nat → Int32) (fn : Nat → Int32) (fl : Nat → Int32) (hcnt : cnt ≤ 301) :
    Met l yX0_leastDistance wsX0_leastDistance { frames := 0, cells := 0, slots := 0, locals := 0 } (va_Pc [.ref g] (Wd D [(cI, .int), (cJ, .array .int), (cL, .long)] [(g, .inr (0, [.ref gp, .ref gt, .ref ge, .ref gd, .ref gs, .int (nI cnt), .ref gn, .ref gl])), (gp, .inr (4, [.ref gpa, .int (nI om)])), (gpa, .inl (cI, 150, .inl op)), (gt, .inr (4, [.ref gta, .int (nI on)])), (gta, .inl (cI, 300, .inl ot)), (ge, .inl (cI, 301, .inl fe)), (gd, .inl (cI, 301, .inl fd)), (gs, .inl (cI, 301, .inl fs)), (gn, .inl (cI, 151, .inl fn)), (gl, .inl (cI, 151, .inl fl))] sz))
      (va_Qi (fun (r : Int32) (_ : Unit) => r = px_least fd cnt) (fun _ => Wa D [(cI, .int), (cJ, .array .int), (cL, .long)] (va_A [(g, .inr (0, [.ref gp, .ref gt, .ref ge, .ref gd, .ref gs, .int (nI cnt), .ref gn, .ref gl])), (gp, .inr (4, [.ref gpa, .int (nI om)])), (gpa, .inl (cI, 150, .inl op)), (gt, .inr (4, [.ref gta, .int (nI on)])), (gta, .inl (cI, 300, .inl ot)), (ge, .inl (cI, 301, .inl fe)), (gd, .inl (cI, 301, .inl fd)), (gs, .inl (cI, 301, .inl fs)), (gn, .inl (cI, 151, .inl fn)), (gl, .inl (cI, 151, .inl fl))] sz) ([(g, .inr (0, [.ref gp, .ref gt, .ref ge, .ref gd, .ref gs, .int (nI cnt), .ref gn, .ref gl])), (gp, .inr (4, [.ref gpa, .int (nI om)])), (gpa, .inl (cI, 150, .inl op)), (gt, .inr (4, [.ref gta, .int (nI on)])), (gta, .inl (cI, 300, .inl ot)), (ge, .inl (cI, 301, .inl fe)), (gd, .inl (cI, 301, .inl fd)), (gs, .inl (cI, 301, .inl fs)), (gn, .inl (cI, 151, .inl fn)), (gl, .inl (cI, 151, .inl fl))])) (va_A [(g, .inr (0, [.ref gp, .ref gt, .ref ge, .ref gd, .ref gs, .int (nI cnt), .ref gn, .ref gl])), (gp, .inr (4, [.ref gpa, .int (nI om)])), (gpa, .inl (cI, 150, .inl op)), (gt, .inr (4, [.ref gta, .int (nI on)])), (gta, .inl (cI, 300, .inl ot)), (ge, .inl (cI, 301, .inl fe)), (gd, .inl (cI, 301, .inl fd)), (gs, .inl (cI, 301, .inl fs)), (gn, .inl (cI, 151, .inl fn)), (gl, .inl (cI, 151, .inl fl))] sz)) 0 0 (va_A [(g, .inr (0, [.ref gp, .ref gt, .ref ge, .ref gd, .ref gs, .int (nI cnt), .ref gn, .ref gl])), (gp, .inr (4, [.ref gpa, .int (nI om)])), (gpa, .inl (cI, 150, .inl op)), (gt, .inr (4, [.ref gta, .int (nI on)])), (gta, .inl (cI, 300, .inl ot)), (ge, .inl (cI, 301, .inl fe)), (gd, .inl (cI, 301, .inl fd)), (gs, .inl (cI, 301, .inl fs)), (gn, .inl (cI, 151, .inl fn)), (gl, .inl (cI, 151, .inl fl))] sz) := by
  refine Met.ofW (cc := cX0_leastDistance) (maxL := 3) (ret := (some .int)) (by decide) rfl ?_
  intro p e s m args below meth c s₁ B hml hv
  obtain ⟨rfl, hsz, hP, hK, hD0⟩ := hv
  have hx := B.exec
  have hb := B.bytes
  have hr := B.returns
  have hts := atoms_spec (ws := wsX0_leastDistance) B.pre
  have hown : s.vm.findClass RX0 = some m.cls := findClass_of_methodNamed B.named
  have hlocks := B.notSynchronized
  subst hsz
  have hD := hD0.self (sz := s.heap.size)
  generalize hAe : va_A [(g, .inr (0, [.ref gp, .ref gt, .ref ge, .ref gd, .ref gs, .int (nI cnt), .ref gn, .ref gl])), (gp, .inr (4, [.ref gpa, .int (nI om)])), (gpa, .inl (cI, 150, .inl op)), (gt, .inr (4, [.ref gta, .int (nI on)])), (gta, .inl (cI, 300, .inl ot)), (ge, .inl (cI, 301, .inl fe)), (gd, .inl (cI, 301, .inl fd)), (gs, .inl (cI, 301, .inl fs)), (gn, .inl (cI, 151, .inl fn)), (gl, .inl (cI, 151, .inl fl))] s.heap.size = A at hD ⊢
  have hA : ∀ q : Nat, s.heap.size ≤ q → A q := fun q h => by rw [← hAe]; exact Or.inr h
  have hl := lv_entry ([.ref g]) (n := 3) (Nat.le_of_ble_eq_true rfl)
  rw [lg_entry_eq]
  generalize (lg_sl ([.ref g]) ++ List.replicate (3 - (lg_sl ([.ref g])).length) Slot.unset).toArray = ls at hl ⊢
  have hl : lv_has ls 3 [(0, .ref g)] := hl
  refine hv_start (A := A) (ws := [(g, .inr (0, [.ref gp, .ref gt, .ref ge, .ref gd, .ref gs, .int (nI cnt), .ref gn, .ref gl])), (gp, .inr (4, [.ref gpa, .int (nI om)])), (gpa, .inl (cI, 150, .inl op)), (gt, .inr (4, [.ref gta, .int (nI on)])), (gta, .inl (cI, 300, .inl ot)), (ge, .inl (cI, 301, .inl fe)), (gd, .inl (cI, 301, .inl fd)), (gs, .inl (cI, 301, .inl fs)), (gn, .inl (cI, 151, .inl fn)), (gl, .inl (cI, 151, .inl fl))]) hP (fun H locs hP hS => ?_)
  have w_0 := hts (.fieldLink RX0 33 "TextAligner$Findings" "size" "I") (by decide +kernel)
  have i_X0 : ∀ w ∈ wsX00, w ∈ wsX0_leastDistance := by decide +kernel
  have w_2 := hts (.fieldLink RX0 27 "TextAligner$Findings" "distances" "[I") (by decide +kernel)
  refine lv_iconst (v := (-1)) hx hb dX0_leastDistance_0 (by decide) ?_
  refine lv_istore_n (lv' := [(1, .int (-1)), (0, .ref g)]) hx hb dX0_leastDistance_1 rfl hl (by decide) rfl (fun ls hl => ?_)
  refine lv_iconst (v := 0) hx hb dX0_leastDistance_2 (by decide) ?_
  refine lv_istore_n (lv' := [(2, .int 0), (1, .int (-1)), (0, .ref g)]) hx hb dX0_leastDistance_3 rfl hl (by decide) rfl (fun ls hl => ?_)
  refine hv_loop (fun zz H locs ls => ∃ (i : Nat), i ≤ cnt ∧ zz = cnt - i ∧ va_P D vwCl [(g, .inr (0, [.ref gp, .ref gt, .ref ge, .ref gd, .ref gs, .int (nI cnt), .ref gn, .ref gl])), (gp, .inr (4, [.ref gpa, .int (nI om)])), (gpa, .inl (cI, 150, .inl op)), (gt, .inr (4, [.ref gta, .int (nI on)])), (gta, .inl (cI, 300, .inl ot)), (ge, .inl (cI, 301, .inl fe)), (gd, .inl (cI, 301, .inl fd)), (gs, .inl (cI, 301, .inl fs)), (gn, .inl (cI, 151, .inl fn)), (gl, .inl (cI, 151, .inl fl))] H ∧ va_D A [(g, .inr (0, [.ref gp, .ref gt, .ref ge, .ref gd, .ref gs, .int (nI cnt), .ref gn, .ref gl])), (gp, .inr (4, [.ref gpa, .int (nI om)])), (gpa, .inl (cI, 150, .inl op)), (gt, .inr (4, [.ref gta, .int (nI on)])), (gta, .inl (cI, 300, .inl ot)), (ge, .inl (cI, 301, .inl fe)), (gd, .inl (cI, 301, .inl fd)), (gs, .inl (cI, 301, .inl fs)), (gn, .inl (cI, 151, .inl fn)), (gl, .inl (cI, 151, .inl fl))] ∧ va_S A s.heap H locs ∧ lv_has ls 3 [(0, .ref g), (1, .int (px_least fd i)), (2, .int (nI i))]) ?_ _ ⟨0, by omega, rfl, hP, hD, hS, lv_sub hl [2, 1, 0] rfl⟩
  intro zz_4 H locs ls hI ih_4
  obtain ⟨i, hi, hzz_4, hP, hD, hS, hl⟩ := hI
  refine lv_iload_n hx hb dX0_leastDistance_4 rfl (lv_at hl 2 rfl) ?_
  refine lv_aload_n hx hb dX0_leastDistance_5 rfl (lv_at hl 0 rfl) ?_
  refine va_get (D := D) (ci := 0) (v := .int (nI cnt)) (C := RX0) (T := TX0) (N := 8) hx hb hts i_X0 hown hK hP 0 rfl rfl 5 (by decide) w_0 (fun _ h9 => h9) rfl dX0_leastDistance_6 ?_
  refine lv_icmp_ge (tgt := 40) hx hb dX0_leastDistance_9 (by decide) (fun c_9 => ?_) (fun c_9 => ?_)
  · have k_9 : cnt ≤ i := (nI_leI (a := cnt) (b := i) (by omega) (by omega)).mp c_9
    refine lv_iload_n hx hb dX0_leastDistance_40 rfl (lv_at hl 1 rfl) ?_
    have e9 : i = cnt := by omega
    subst e9
    exact fin_i () hx hb hr hlocks dX0_leastDistance_41 hK hS hP hD rfl
  · have k_9 : ¬ (cnt ≤ i) := fun q => c_9 ((nI_leI (a := cnt) (b := i) (by omega) (by omega)).mpr q)
    refine lv_iload_n hx hb dX0_leastDistance_12 rfl (lv_at hl 1 rfl) ?_
    refine lv_iconst (v := (-1)) hx hb dX0_leastDistance_13 (by decide) ?_
    refine lv_icmp_eq (tgt := 27) hx hb dX0_leastDistance_14 (by decide) (fun c_14 => ?_) (fun c_14 => ?_)
    · refine lv_aload_n hx hb dX0_leastDistance_27 rfl (lv_at hl 0 rfl) ?_
      refine va_get (D := D) (ci := 0) (v := .ref gd) (C := RX0) (T := TX0) (N := 8) hx hb hts i_X0 hown hK hP 0 rfl rfl 3 (by decide) w_2 (fun _ h9 => h9) rfl dX0_leastDistance_28 ?_
      refine lv_iload_n hx hb dX0_leastDistance_31 rfl (lv_at hl 2 rfl) ?_
      refine va_ialdN hx hb hK hP 6 0 rfl rfl (k := i) (by omega) (by decide) dX0_leastDistance_32 ?_
      refine lv_istore_n (lv' := [(1, .int (fd i)), (0, .ref g), (2, .int (nI i))]) hx hb dX0_leastDistance_33 rfl hl (by decide) rfl (fun ls hl => ?_)
      refine lv_iinc (v := nI (i + 1)) (lv' := [(2, .int (nI (i + 1))), (1, .int (fd i)), (0, .ref g)]) hx hb dX0_leastDistance_34 hl (k := 2) rfl (nI_add i 1) (by decide) rfl (fun ls hl => ?_)
      refine lv_goto (tgt := 4) hx hb dX0_leastDistance_37 (by decide) ?_
      have e9 : px_least fd (i + 1) = fd i := if_pos (Or.inl c_14)
      rw [← e9] at hl
      exact ih_4 (cnt - (i + 1)) _ _ _ (by omega) ⟨i + 1, by omega, rfl, hP, hD, hS, lv_sub hl [2, 1, 0] rfl⟩
    · refine lv_aload_n hx hb dX0_leastDistance_17 rfl (lv_at hl 0 rfl) ?_
      refine va_get (D := D) (ci := 0) (v := .ref gd) (C := RX0) (T := TX0) (N := 8) hx hb hts i_X0 hown hK hP 0 rfl rfl 3 (by decide) w_2 (fun _ h9 => h9) rfl dX0_leastDistance_18 ?_
      refine lv_iload_n hx hb dX0_leastDistance_21 rfl (lv_at hl 2 rfl) ?_
      refine va_ialdN hx hb hK hP 6 0 rfl rfl (k := i) (by omega) (by decide) dX0_leastDistance_22 ?_
      refine lv_iload_n hx hb dX0_leastDistance_23 rfl (lv_at hl 1 rfl) ?_
      refine lv_icmp_ge (tgt := 34) hx hb dX0_leastDistance_24 (by decide) (fun c_24 => ?_) (fun c_24 => ?_)
      · refine lv_iinc (v := nI (i + 1)) (lv' := [(2, .int (nI (i + 1))), (0, .ref g), (1, .int (px_least fd i))]) hx hb dX0_leastDistance_34 hl (k := 2) rfl (nI_add i 1) (by decide) rfl (fun ls hl => ?_)
        refine lv_goto (tgt := 4) hx hb dX0_leastDistance_37 (by decide) ?_
        have e9 : px_least fd (i + 1) = px_least fd i := if_neg (fun q => q.elim c_14 (fun q => Int32.not_le.mpr q c_24))
        rw [← e9] at hl
        exact ih_4 (cnt - (i + 1)) _ _ _ (by omega) ⟨i + 1, by omega, rfl, hP, hD, hS, lv_sub hl [1, 2, 0] rfl⟩
      · refine lv_aload_n hx hb dX0_leastDistance_27 rfl (lv_at hl 0 rfl) ?_
        refine va_get (D := D) (ci := 0) (v := .ref gd) (C := RX0) (T := TX0) (N := 8) hx hb hts i_X0 hown hK hP 0 rfl rfl 3 (by decide) w_2 (fun _ h9 => h9) rfl dX0_leastDistance_28 ?_
        refine lv_iload_n hx hb dX0_leastDistance_31 rfl (lv_at hl 2 rfl) ?_
        refine va_ialdN hx hb hK hP 6 0 rfl rfl (k := i) (by omega) (by decide) dX0_leastDistance_32 ?_
        refine lv_istore_n (lv' := [(1, .int (fd i)), (0, .ref g), (2, .int (nI i))]) hx hb dX0_leastDistance_33 rfl hl (by decide) rfl (fun ls hl => ?_)
        refine lv_iinc (v := nI (i + 1)) (lv' := [(2, .int (nI (i + 1))), (1, .int (fd i)), (0, .ref g)]) hx hb dX0_leastDistance_34 hl (k := 2) rfl (nI_add i 1) (by decide) rfl (fun ls hl => ?_)
        refine lv_goto (tgt := 4) hx hb dX0_leastDistance_37 (by decide) ?_
        have e9 : px_least fd (i + 1) = fd i := if_pos (Or.inr (Int32.not_le.mp c_24))
        rw [← e9] at hl
        exact ih_4 (cnt - (i + 1)) _ _ _ (by omega) ⟨i + 1, by omega, rfl, hP, hD, hS, lv_sub hl [2, 1, 0] rfl⟩

set_option maxHeartbeats 4000000 in
set_option maxRecDepth 100000 in
theorem c_X0_takeIfBetter (l : Launch) (D : va_G) (cI cJ cL : ClassId) (sz : Nat) (g : Nat) (gp : Nat) (gt : Nat) (ge : Nat) (gd : Nat) (gs : Nat) (gn : Nat) (gl : Nat) (cnt : Nat) (fn : Nat → Int32) (fl : Nat → Int32) (k : Nat) (x : Int32) (y : Int32) (hk : k < 151) :
    Met l yX0_takeIfBetter wsX0_takeIfBetter { frames := 0, cells := 0, slots := 0, locals := 0 } (va_Pc [.ref g, .int (nI k), .int x, .int y] (Wd D [(cI, .int), (cJ, .array .int), (cL, .long)] [(g, .inr (0, [.ref gp, .ref gt, .ref ge, .ref gd, .ref gs, .int (nI cnt), .ref gn, .ref gl])), (gn, .inl (cI, 151, .inl fn)), (gl, .inl (cI, 151, .inl fl))] sz))
      (va_Qv (fun (_ : Unit) => True) (fun _ => Wa D [(cI, .int), (cJ, .array .int), (cL, .long)] (va_A [(g, .inr (0, [.ref gp, .ref gt, .ref ge, .ref gd, .ref gs, .int (nI cnt), .ref gn, .ref gl])), (gn, .inl (cI, 151, .inl fn)), (gl, .inl (cI, 151, .inl fl))] sz) ([(g, .inr (0, [.ref gp, .ref gt, .ref ge, .ref gd, .ref gs, .int (nI cnt), .ref gn, .ref gl])), (gn, .inl (cI, 151, .inl (upd fn k (px_tb (fn k, fl k) x y).1))), (gl, .inl (cI, 151, .inl (upd fl k (px_tb (fn k, fl k) x y).2)))])) (va_A [(g, .inr (0, [.ref gp, .ref gt, .ref ge, .ref gd, .ref gs, .int (nI cnt), .ref gn, .ref gl])), (gn, .inl (cI, 151, .inl fn)), (gl, .inl (cI, 151, .inl fl))] sz)) 0 0 (va_A [(g, .inr (0, [.ref gp, .ref gt, .ref ge, .ref gd, .ref gs, .int (nI cnt), .ref gn, .ref gl])), (gn, .inl (cI, 151, .inl fn)), (gl, .inl (cI, 151, .inl fl))] sz) := by
  refine Met.ofW (cc := cX0_takeIfBetter) (maxL := 4) (ret := none) (by decide) rfl ?_
  intro p e s m args below meth c s₁ B hml hv
  obtain ⟨rfl, hsz, hP, hK, hD0⟩ := hv
  have hx := B.exec
  have hb := B.bytes
  have hr := B.returns
  have hts := atoms_spec (ws := wsX0_takeIfBetter) B.pre
  have hown : s.vm.findClass RX0 = some m.cls := findClass_of_methodNamed B.named
  have hlocks := B.notSynchronized
  subst hsz
  have hD := hD0.self (sz := s.heap.size)
  generalize hAe : va_A [(g, .inr (0, [.ref gp, .ref gt, .ref ge, .ref gd, .ref gs, .int (nI cnt), .ref gn, .ref gl])), (gn, .inl (cI, 151, .inl fn)), (gl, .inl (cI, 151, .inl fl))] s.heap.size = A at hD ⊢
  have hA : ∀ q : Nat, s.heap.size ≤ q → A q := fun q h => by rw [← hAe]; exact Or.inr h
  have hl := lv_entry ([.ref g, .int (nI k), .int x, .int y]) (n := 4) (Nat.le_of_ble_eq_true rfl)
  rw [lg_entry_eq]
  generalize (lg_sl ([.ref g, .int (nI k), .int x, .int y]) ++ List.replicate (4 - (lg_sl ([.ref g, .int (nI k), .int x, .int y])).length) Slot.unset).toArray = ls at hl ⊢
  have hl : lv_has ls 4 [(0, .ref g), (1, .int (nI k)), (2, .int x), (3, .int y)] := hl
  refine hv_start (A := A) (ws := [(g, .inr (0, [.ref gp, .ref gt, .ref ge, .ref gd, .ref gs, .int (nI cnt), .ref gn, .ref gl])), (gn, .inl (cI, 151, .inl fn)), (gl, .inl (cI, 151, .inl fl))]) hP (fun H locs hP hS => ?_)
  have w_0 := hts (.fieldLink RX0 37 "TextAligner$Findings" "nearest" "[I") (by decide +kernel)
  have i_X0 : ∀ w ∈ wsX00, w ∈ wsX0_takeIfBetter := by decide +kernel
  have w_2 := hts (.fieldLink RX0 40 "TextAligner$Findings" "lastStart" "[I") (by decide +kernel)
  refine lv_iload_n hx hb dX0_takeIfBetter_0 rfl (lv_at hl 2 rfl) ?_
  refine lv_aload_n hx hb dX0_takeIfBetter_1 rfl (lv_at hl 0 rfl) ?_
  refine va_get (D := D) (ci := 0) (v := .ref gn) (C := RX0) (T := TX0) (N := 8) hx hb hts i_X0 hown hK hP 0 rfl rfl 6 (by decide) w_0 (fun _ h9 => h9) rfl dX0_takeIfBetter_2 ?_
  refine lv_iload_n hx hb dX0_takeIfBetter_5 rfl (lv_at hl 1 rfl) ?_
  refine va_ialdN hx hb hK hP 1 0 rfl rfl (k := k) (by omega) (by decide) dX0_takeIfBetter_6 ?_
  refine lv_icmp_lt (tgt := 30) hx hb dX0_takeIfBetter_7 (by decide) (fun c_7 => ?_) (fun c_7 => ?_)
  · refine lv_aload_n hx hb dX0_takeIfBetter_30 rfl (lv_at hl 0 rfl) ?_
    refine va_get (D := D) (ci := 0) (v := .ref gn) (C := RX0) (T := TX0) (N := 8) hx hb hts i_X0 hown hK hP 0 rfl rfl 6 (by decide) w_0 (fun _ h9 => h9) rfl dX0_takeIfBetter_31 ?_
    refine lv_iload_n hx hb dX0_takeIfBetter_34 rfl (lv_at hl 1 rfl) ?_
    refine lv_iload_n hx hb dX0_takeIfBetter_35 rfl (lv_at hl 2 rfl) ?_
    refine va_iastN hx hb hK hP hD hS 1 0 rfl rfl (k := k) (x := x) (by omega) (by decide) dX0_takeIfBetter_36 (fun H locs hP hD hS => ?_)
    have hP : va_P D vwCl [(g, .inr (0, [.ref gp, .ref gt, .ref ge, .ref gd, .ref gs, .int (nI cnt), .ref gn, .ref gl])), (gn, .inl (cI, 151, .inl (upd fn k x))), (gl, .inl (cI, 151, .inl fl))] H := hP
    have hD : va_D A [(g, .inr (0, [.ref gp, .ref gt, .ref ge, .ref gd, .ref gs, .int (nI cnt), .ref gn, .ref gl])), (gn, .inl (cI, 151, .inl (upd fn k x))), (gl, .inl (cI, 151, .inl fl))] := hD
    refine lv_aload_n hx hb dX0_takeIfBetter_37 rfl (lv_at hl 0 rfl) ?_
    refine va_get (D := D) (ci := 0) (v := .ref gl) (C := RX0) (T := TX0) (N := 8) hx hb hts i_X0 hown hK hP 0 rfl rfl 7 (by decide) w_2 (fun _ h9 => h9) rfl dX0_takeIfBetter_38 ?_
    refine lv_iload_n hx hb dX0_takeIfBetter_41 rfl (lv_at hl 1 rfl) ?_
    refine lv_iload_n hx hb dX0_takeIfBetter_42 rfl (lv_at hl 3 rfl) ?_
    refine va_iastN hx hb hK hP hD hS 2 0 rfl rfl (k := k) (x := y) (by omega) (by decide) dX0_takeIfBetter_43 (fun H locs hP hD hS => ?_)
    have hP : va_P D vwCl [(g, .inr (0, [.ref gp, .ref gt, .ref ge, .ref gd, .ref gs, .int (nI cnt), .ref gn, .ref gl])), (gn, .inl (cI, 151, .inl (upd fn k x))), (gl, .inl (cI, 151, .inl (upd fl k y)))] H := hP
    have hD : va_D A [(g, .inr (0, [.ref gp, .ref gt, .ref ge, .ref gd, .ref gs, .int (nI cnt), .ref gn, .ref gl])), (gn, .inl (cI, 151, .inl (upd fn k x))), (gl, .inl (cI, 151, .inl (upd fl k y)))] := hD
    have e9 : px_tb (fn k, fl k) x y = (x, y) := if_pos (Or.inl c_7)
    exact fin_v () hx hb hr hlocks dX0_takeIfBetter_44 hK hS (by rw [e9]; exact hP) (by rw [e9]; exact hD) trivial
  · refine lv_iload_n hx hb dX0_takeIfBetter_10 rfl (lv_at hl 2 rfl) ?_
    refine lv_aload_n hx hb dX0_takeIfBetter_11 rfl (lv_at hl 0 rfl) ?_
    refine va_get (D := D) (ci := 0) (v := .ref gn) (C := RX0) (T := TX0) (N := 8) hx hb hts i_X0 hown hK hP 0 rfl rfl 6 (by decide) w_0 (fun _ h9 => h9) rfl dX0_takeIfBetter_12 ?_
    refine lv_iload_n hx hb dX0_takeIfBetter_15 rfl (lv_at hl 1 rfl) ?_
    refine va_ialdN hx hb hK hP 1 0 rfl rfl (k := k) (by omega) (by decide) dX0_takeIfBetter_16 ?_
    refine lv_icmp_ne (tgt := 44) hx hb dX0_takeIfBetter_17 (by decide) (fun c_17 => ?_) (fun c_17 => ?_)
    · have e9 : px_tb (fn k, fl k) x y = (fn k, fl k) := if_neg (fun q => q.elim c_7 (fun q => c_17 q.1))
      exact fin_v () hx hb hr hlocks dX0_takeIfBetter_44 hK hS (by rw [e9, px_us, px_us]; exact hP) (by rw [e9, px_us, px_us]; exact hD) trivial
    · refine lv_iload_n hx hb dX0_takeIfBetter_20 rfl (lv_at hl 3 rfl) ?_
      refine lv_aload_n hx hb dX0_takeIfBetter_21 rfl (lv_at hl 0 rfl) ?_
      refine va_get (D := D) (ci := 0) (v := .ref gl) (C := RX0) (T := TX0) (N := 8) hx hb hts i_X0 hown hK hP 0 rfl rfl 7 (by decide) w_2 (fun _ h9 => h9) rfl dX0_takeIfBetter_22 ?_
      refine lv_iload_n hx hb dX0_takeIfBetter_25 rfl (lv_at hl 1 rfl) ?_
      refine va_ialdN hx hb hK hP 2 0 rfl rfl (k := k) (by omega) (by decide) dX0_takeIfBetter_26 ?_
      refine lv_icmp_le (tgt := 44) hx hb dX0_takeIfBetter_27 (by decide) (fun c_27 => ?_) (fun c_27 => ?_)
      · have e9 : px_tb (fn k, fl k) x y = (fn k, fl k) := if_neg (fun q => q.elim c_7 (fun q => Int32.not_le.mpr q.2 c_27))
        exact fin_v () hx hb hr hlocks dX0_takeIfBetter_44 hK hS (by rw [e9, px_us, px_us]; exact hP) (by rw [e9, px_us, px_us]; exact hD) trivial
      · refine lv_aload_n hx hb dX0_takeIfBetter_30 rfl (lv_at hl 0 rfl) ?_
        refine va_get (D := D) (ci := 0) (v := .ref gn) (C := RX0) (T := TX0) (N := 8) hx hb hts i_X0 hown hK hP 0 rfl rfl 6 (by decide) w_0 (fun _ h9 => h9) rfl dX0_takeIfBetter_31 ?_
        refine lv_iload_n hx hb dX0_takeIfBetter_34 rfl (lv_at hl 1 rfl) ?_
        refine lv_iload_n hx hb dX0_takeIfBetter_35 rfl (lv_at hl 2 rfl) ?_
        refine va_iastN hx hb hK hP hD hS 1 0 rfl rfl (k := k) (x := x) (by omega) (by decide) dX0_takeIfBetter_36 (fun H locs hP hD hS => ?_)
        have hP : va_P D vwCl [(g, .inr (0, [.ref gp, .ref gt, .ref ge, .ref gd, .ref gs, .int (nI cnt), .ref gn, .ref gl])), (gn, .inl (cI, 151, .inl (upd fn k x))), (gl, .inl (cI, 151, .inl fl))] H := hP
        have hD : va_D A [(g, .inr (0, [.ref gp, .ref gt, .ref ge, .ref gd, .ref gs, .int (nI cnt), .ref gn, .ref gl])), (gn, .inl (cI, 151, .inl (upd fn k x))), (gl, .inl (cI, 151, .inl fl))] := hD
        refine lv_aload_n hx hb dX0_takeIfBetter_37 rfl (lv_at hl 0 rfl) ?_
        refine va_get (D := D) (ci := 0) (v := .ref gl) (C := RX0) (T := TX0) (N := 8) hx hb hts i_X0 hown hK hP 0 rfl rfl 7 (by decide) w_2 (fun _ h9 => h9) rfl dX0_takeIfBetter_38 ?_
        refine lv_iload_n hx hb dX0_takeIfBetter_41 rfl (lv_at hl 1 rfl) ?_
        refine lv_iload_n hx hb dX0_takeIfBetter_42 rfl (lv_at hl 3 rfl) ?_
        refine va_iastN hx hb hK hP hD hS 2 0 rfl rfl (k := k) (x := y) (by omega) (by decide) dX0_takeIfBetter_43 (fun H locs hP hD hS => ?_)
        have hP : va_P D vwCl [(g, .inr (0, [.ref gp, .ref gt, .ref ge, .ref gd, .ref gs, .int (nI cnt), .ref gn, .ref gl])), (gn, .inl (cI, 151, .inl (upd fn k x))), (gl, .inl (cI, 151, .inl (upd fl k y)))] H := hP
        have hD : va_D A [(g, .inr (0, [.ref gp, .ref gt, .ref ge, .ref gd, .ref gs, .int (nI cnt), .ref gn, .ref gl])), (gn, .inl (cI, 151, .inl (upd fn k x))), (gl, .inl (cI, 151, .inl (upd fl k y)))] := hD
        have e9 : px_tb (fn k, fl k) x y = (x, y) := if_pos (Or.inr ⟨c_17, Int32.not_le.mp c_27⟩)
        exact fin_v () hx hb hr hlocks dX0_takeIfBetter_44 hK hS (by rw [e9]; exact hP) (by rw [e9]; exact hD) trivial

set_option maxHeartbeats 4000000 in
set_option maxRecDepth 100000 in
theorem c_X0_standAtFirstPlace (l : Launch) (D : va_G) (cI cJ cL : ClassId) (sz : Nat) (g : Nat) (gp : Nat) (gpa : Nat) (gt : Nat) (gta : Nat) (ge : Nat) (gd : Nat) (gs : Nat) (gn : Nat) (gl : Nat) (om : Nat) (on : Nat) (cnt : Nat) (op : Nat → Int32) (ot : Nat → Int32) (fe : Nat → Int32) (fd : Nat → Int32) (fs : Nat → Int32) (fn : Nat → Int32) (fl : Nat → Int32) (hom : om ≤ 150) :
    Met l yX0_standAtFirstPlace wsX0_standAtFirstPlace { frames := 1, cells := 0, slots := 0, locals := 20 } (va_Pc [.ref g] (Wd D [(cI, .int), (cJ, .array .int), (cL, .long)] [(g, .inr (0, [.ref gp, .ref gt, .ref ge, .ref gd, .ref gs, .int (nI cnt), .ref gn, .ref gl])), (gp, .inr (4, [.ref gpa, .int (nI om)])), (gpa, .inl (cI, 150, .inl op)), (gt, .inr (4, [.ref gta, .int (nI on)])), (gta, .inl (cI, 300, .inl ot)), (ge, .inl (cI, 301, .inl fe)), (gd, .inl (cI, 301, .inl fd)), (gs, .inl (cI, 301, .inl fs)), (gn, .inl (cI, 151, .inl fn)), (gl, .inl (cI, 151, .inl fl))] sz))
      (va_Qv (fun (u : (Nat → Int32) × (Nat → Int32)) => ∀ k, k ≤ om → (u.1 k, u.2 k) = (nI k, (0 : Int32))) (fun u => Wa D [(cI, .int), (cJ, .array .int), (cL, .long)] (va_A [(g, .inr (0, [.ref gp, .ref gt, .ref ge, .ref gd, .ref gs, .int (nI cnt), .ref gn, .ref gl])), (gp, .inr (4, [.ref gpa, .int (nI om)])), (gpa, .inl (cI, 150, .inl op)), (gt, .inr (4, [.ref gta, .int (nI on)])), (gta, .inl (cI, 300, .inl ot)), (ge, .inl (cI, 301, .inl fe)), (gd, .inl (cI, 301, .inl fd)), (gs, .inl (cI, 301, .inl fs)), (gn, .inl (cI, 151, .inl fn)), (gl, .inl (cI, 151, .inl fl))] sz) ([(g, .inr (0, [.ref gp, .ref gt, .ref ge, .ref gd, .ref gs, .int (nI cnt), .ref gn, .ref gl])), (gp, .inr (4, [.ref gpa, .int (nI om)])), (gpa, .inl (cI, 150, .inl op)), (gt, .inr (4, [.ref gta, .int (nI on)])), (gta, .inl (cI, 300, .inl ot)), (ge, .inl (cI, 301, .inl fe)), (gd, .inl (cI, 301, .inl fd)), (gs, .inl (cI, 301, .inl fs)), (gn, .inl (cI, 151, .inl u.1)), (gl, .inl (cI, 151, .inl u.2))])) (va_A [(g, .inr (0, [.ref gp, .ref gt, .ref ge, .ref gd, .ref gs, .int (nI cnt), .ref gn, .ref gl])), (gp, .inr (4, [.ref gpa, .int (nI om)])), (gpa, .inl (cI, 150, .inl op)), (gt, .inr (4, [.ref gta, .int (nI on)])), (gta, .inl (cI, 300, .inl ot)), (ge, .inl (cI, 301, .inl fe)), (gd, .inl (cI, 301, .inl fd)), (gs, .inl (cI, 301, .inl fs)), (gn, .inl (cI, 151, .inl fn)), (gl, .inl (cI, 151, .inl fl))] sz)) 0 0 (va_A [(g, .inr (0, [.ref gp, .ref gt, .ref ge, .ref gd, .ref gs, .int (nI cnt), .ref gn, .ref gl])), (gp, .inr (4, [.ref gpa, .int (nI om)])), (gpa, .inl (cI, 150, .inl op)), (gt, .inr (4, [.ref gta, .int (nI on)])), (gta, .inl (cI, 300, .inl ot)), (ge, .inl (cI, 301, .inl fe)), (gd, .inl (cI, 301, .inl fd)), (gs, .inl (cI, 301, .inl fs)), (gn, .inl (cI, 151, .inl fn)), (gl, .inl (cI, 151, .inl fl))] sz) := by
  refine Met.ofW (cc := cX0_standAtFirstPlace) (maxL := 2) (ret := none) (by decide) rfl ?_
  intro p e s m args below meth c s₁ B hml hv
  obtain ⟨rfl, hsz, hP, hK, hD0⟩ := hv
  have hx := B.exec
  have hb := B.bytes
  have hr := B.returns
  have hts := atoms_spec (ws := wsX0_standAtFirstPlace) B.pre
  have hown : s.vm.findClass RX0 = some m.cls := findClass_of_methodNamed B.named
  have hlocks := B.notSynchronized
  subst hsz
  have hD := hD0.self (sz := s.heap.size)
  generalize hAe : va_A [(g, .inr (0, [.ref gp, .ref gt, .ref ge, .ref gd, .ref gs, .int (nI cnt), .ref gn, .ref gl])), (gp, .inr (4, [.ref gpa, .int (nI om)])), (gpa, .inl (cI, 150, .inl op)), (gt, .inr (4, [.ref gta, .int (nI on)])), (gta, .inl (cI, 300, .inl ot)), (ge, .inl (cI, 301, .inl fe)), (gd, .inl (cI, 301, .inl fd)), (gs, .inl (cI, 301, .inl fs)), (gn, .inl (cI, 151, .inl fn)), (gl, .inl (cI, 151, .inl fl))] s.heap.size = A at hD ⊢
  have hA : ∀ q : Nat, s.heap.size ≤ q → A q := fun q h => by rw [← hAe]; exact Or.inr h
  have hl := lv_entry ([.ref g]) (n := 2) (Nat.le_of_ble_eq_true rfl)
  rw [lg_entry_eq]
  generalize (lg_sl ([.ref g]) ++ List.replicate (2 - (lg_sl ([.ref g])).length) Slot.unset).toArray = ls at hl ⊢
  have hl : lv_has ls 2 [(0, .ref g)] := hl
  refine hv_start (A := A) (ws := [(g, .inr (0, [.ref gp, .ref gt, .ref ge, .ref gd, .ref gs, .int (nI cnt), .ref gn, .ref gl])), (gp, .inr (4, [.ref gpa, .int (nI om)])), (gpa, .inl (cI, 150, .inl op)), (gt, .inr (4, [.ref gta, .int (nI on)])), (gta, .inl (cI, 300, .inl ot)), (ge, .inl (cI, 301, .inl fe)), (gd, .inl (cI, 301, .inl fd)), (gs, .inl (cI, 301, .inl fs)), (gn, .inl (cI, 151, .inl fn)), (gl, .inl (cI, 151, .inl fl))]) hP (fun H locs hP hS => ?_)
  have w_0 := hts (.fieldLink RX0 14 "TextAligner$Findings" "pattern" "LTextAligner$SignRow;") (by decide +kernel)
  have i_X0 : ∀ w ∈ wsX00, w ∈ wsX0_standAtFirstPlace := by decide +kernel
  have w_2 := hts (.fieldLink RX0 37 "TextAligner$Findings" "nearest" "[I") (by decide +kernel)
  have w_3 := hts (.fieldLink RX0 40 "TextAligner$Findings" "lastStart" "[I") (by decide +kernel)
  refine lv_iconst (v := 0) hx hb dX0_standAtFirstPlace_0 (by decide) ?_
  refine lv_istore_n (lv' := [(1, .int 0), (0, .ref g)]) hx hb dX0_standAtFirstPlace_1 rfl hl (by decide) rfl (fun ls hl => ?_)
  refine hv_loop (fun zz H locs ls => ∃ (i : Nat) (a1 : Nat → Int32) (a2 : Nat → Int32), i ≤ om + 1 ∧ (∀ k, k < i → (a1 k, a2 k) = (nI k, (0 : Int32))) ∧ zz = om + 1 - i ∧ va_P D vwCl [(g, .inr (0, [.ref gp, .ref gt, .ref ge, .ref gd, .ref gs, .int (nI cnt), .ref gn, .ref gl])), (gp, .inr (4, [.ref gpa, .int (nI om)])), (gpa, .inl (cI, 150, .inl op)), (gt, .inr (4, [.ref gta, .int (nI on)])), (gta, .inl (cI, 300, .inl ot)), (ge, .inl (cI, 301, .inl fe)), (gd, .inl (cI, 301, .inl fd)), (gs, .inl (cI, 301, .inl fs)), (gn, .inl (cI, 151, .inl a1)), (gl, .inl (cI, 151, .inl a2))] H ∧ va_D A [(g, .inr (0, [.ref gp, .ref gt, .ref ge, .ref gd, .ref gs, .int (nI cnt), .ref gn, .ref gl])), (gp, .inr (4, [.ref gpa, .int (nI om)])), (gpa, .inl (cI, 150, .inl op)), (gt, .inr (4, [.ref gta, .int (nI on)])), (gta, .inl (cI, 300, .inl ot)), (ge, .inl (cI, 301, .inl fe)), (gd, .inl (cI, 301, .inl fd)), (gs, .inl (cI, 301, .inl fs)), (gn, .inl (cI, 151, .inl a1)), (gl, .inl (cI, 151, .inl a2))] ∧ va_S A s.heap H locs ∧ lv_has ls 2 [(0, .ref g), (1, .int (nI i))]) ?_ _ ⟨0, fn, fl, by omega, fun k q => absurd q (Nat.not_lt_zero k), rfl, hP, hD, hS, lv_sub hl [1, 0] rfl⟩
  intro zz_2 H locs ls hI ih_2
  obtain ⟨i, a1, a2, hi, hk, hzz_2, hP, hD, hS, hl⟩ := hI
  refine lv_iload_n hx hb dX0_standAtFirstPlace_2 rfl (lv_at hl 1 rfl) ?_
  refine lv_aload_n hx hb dX0_standAtFirstPlace_3 rfl (lv_at hl 0 rfl) ?_
  refine va_get (D := D) (ci := 0) (v := .ref gp) (C := RX0) (T := TX0) (N := 8) hx hb hts i_X0 hown hK hP 0 rfl rfl 0 (by decide) w_0 (fun _ h9 => h9) rfl dX0_standAtFirstPlace_4 ?_
  have fr := fr_x (wc := [(gp, .inr (4, [.ref gpa, .int (nI om)])), (gpa, .inl (cI, 150, .inl op))]) (wr := [(g, .inr (0, [.ref gp, .ref gt, .ref ge, .ref gd, .ref gs, .int (nI cnt), .ref gn, .ref gl])), (gt, .inr (4, [.ref gta, .int (nI on)])), (gta, .inl (cI, 300, .inl ot)), (ge, .inl (cI, 301, .inl fe)), (gd, .inl (cI, 301, .inl fd)), (gs, .inl (cI, 301, .inl fs)), (gn, .inl (cI, 151, .inl a1)), (gl, .inl (cI, 151, .inl a2))]) hP hD hS hA [1, 2] [0, 3, 4, 5, 6, 7, 8, 9] rfl rfl (by decide) (by decide) (by decide)
  refine cv_i (J := fun _ => [(g, .inr (0, [.ref gp, .ref gt, .ref ge, .ref gd, .ref gs, .int (nI cnt), .ref gn, .ref gl])), (gp, .inr (4, [.ref gpa, .int (nI om)])), (gpa, .inl (cI, 150, .inl op)), (gt, .inr (4, [.ref gta, .int (nI on)])), (gta, .inl (cI, 300, .inl ot)), (ge, .inl (cI, 301, .inl fe)), (gd, .inl (cI, 301, .inl fd)), (gs, .inl (cI, 301, .inl fs)), (gn, .inl (cI, 151, .inl a1)), (gl, .inl (cI, 151, .inl a2))]) (As := []) (rest := [.int (nI i)]) (q0 := 0) (ci := 4) ⟨hx, hb, hml, hown, hts⟩ (c_X4_size l D cI cJ cL H.size gp gpa 150 om op ) (cwV 0 hts gX0_standAtFirstPlace_X4_size rfl rfl rfl (by decide +kernel) ⟨Nat.le_of_ble_eq_true rfl, Nat.le_of_ble_eq_true rfl⟩) hK fr.1 fr.2.1 fr.2.2.1 (fun H1 u hk h1 h2 => ⟨(fr.2.2.2 _ H1 hk h1 h2).1.sub [0, 8, 9, 1, 2, 3, 4, 5, 6, 7] rfl, (fr.2.2.2 _ H1 hk h1 h2).2.sub [0, 8, 9, 1, 2, 3, 4, 5, 6, 7] (by decide) rfl⟩) hS rfl rfl rfl rfl hl.1 rfl (Nat.le_of_ble_eq_true rfl) dX0_standAtFirstPlace_7 ⟨Nat.zero_le _, Nat.zero_le _⟩ (fun r_2 u_1 H locs hw hP hD hS => ?_)
  subst hw
  refine lv_icmp_gt (tgt := 33) hx hb dX0_standAtFirstPlace_10 (by decide) (fun c_10 => ?_) (fun c_10 => ?_)
  · have k_10 : om < i := (nI_ltI (a := om) (b := i) (by omega) (by omega)).mp c_10
    exact fin_v (a1, a2) hx hb hr hlocks dX0_standAtFirstPlace_33 hK hS hP hD (fun k q => hk k (by omega))
  · have k_10 : ¬ (om < i) := fun q => c_10 ((nI_ltI (a := om) (b := i) (by omega) (by omega)).mpr q)
    refine lv_aload_n hx hb dX0_standAtFirstPlace_13 rfl (lv_at hl 0 rfl) ?_
    refine va_get (D := D) (ci := 0) (v := .ref gn) (C := RX0) (T := TX0) (N := 8) hx hb hts i_X0 hown hK hP 0 rfl rfl 6 (by decide) w_2 (fun _ h9 => h9) rfl dX0_standAtFirstPlace_14 ?_
    refine lv_iload_n hx hb dX0_standAtFirstPlace_17 rfl (lv_at hl 1 rfl) ?_
    refine lv_iload_n hx hb dX0_standAtFirstPlace_18 rfl (lv_at hl 1 rfl) ?_
    refine va_iastN hx hb hK hP hD hS 8 0 rfl rfl (k := i) (x := nI i) (by omega) (by decide) dX0_standAtFirstPlace_19 (fun H locs hP hD hS => ?_)
    have hP : va_P D vwCl [(g, .inr (0, [.ref gp, .ref gt, .ref ge, .ref gd, .ref gs, .int (nI cnt), .ref gn, .ref gl])), (gp, .inr (4, [.ref gpa, .int (nI om)])), (gpa, .inl (cI, 150, .inl op)), (gt, .inr (4, [.ref gta, .int (nI on)])), (gta, .inl (cI, 300, .inl ot)), (ge, .inl (cI, 301, .inl fe)), (gd, .inl (cI, 301, .inl fd)), (gs, .inl (cI, 301, .inl fs)), (gn, .inl (cI, 151, .inl (upd a1 i (nI i)))), (gl, .inl (cI, 151, .inl a2))] H := hP
    have hD : va_D A [(g, .inr (0, [.ref gp, .ref gt, .ref ge, .ref gd, .ref gs, .int (nI cnt), .ref gn, .ref gl])), (gp, .inr (4, [.ref gpa, .int (nI om)])), (gpa, .inl (cI, 150, .inl op)), (gt, .inr (4, [.ref gta, .int (nI on)])), (gta, .inl (cI, 300, .inl ot)), (ge, .inl (cI, 301, .inl fe)), (gd, .inl (cI, 301, .inl fd)), (gs, .inl (cI, 301, .inl fs)), (gn, .inl (cI, 151, .inl (upd a1 i (nI i)))), (gl, .inl (cI, 151, .inl a2))] := hD
    refine lv_aload_n hx hb dX0_standAtFirstPlace_20 rfl (lv_at hl 0 rfl) ?_
    refine va_get (D := D) (ci := 0) (v := .ref gl) (C := RX0) (T := TX0) (N := 8) hx hb hts i_X0 hown hK hP 0 rfl rfl 7 (by decide) w_3 (fun _ h9 => h9) rfl dX0_standAtFirstPlace_21 ?_
    refine lv_iload_n hx hb dX0_standAtFirstPlace_24 rfl (lv_at hl 1 rfl) ?_
    refine lv_iconst (v := 0) hx hb dX0_standAtFirstPlace_25 (by decide) ?_
    refine va_iastN hx hb hK hP hD hS 9 0 rfl rfl (k := i) (x := 0) (by omega) (by decide) dX0_standAtFirstPlace_26 (fun H locs hP hD hS => ?_)
    have hP : va_P D vwCl [(g, .inr (0, [.ref gp, .ref gt, .ref ge, .ref gd, .ref gs, .int (nI cnt), .ref gn, .ref gl])), (gp, .inr (4, [.ref gpa, .int (nI om)])), (gpa, .inl (cI, 150, .inl op)), (gt, .inr (4, [.ref gta, .int (nI on)])), (gta, .inl (cI, 300, .inl ot)), (ge, .inl (cI, 301, .inl fe)), (gd, .inl (cI, 301, .inl fd)), (gs, .inl (cI, 301, .inl fs)), (gn, .inl (cI, 151, .inl (upd a1 i (nI i)))), (gl, .inl (cI, 151, .inl (upd a2 i 0)))] H := hP
    have hD : va_D A [(g, .inr (0, [.ref gp, .ref gt, .ref ge, .ref gd, .ref gs, .int (nI cnt), .ref gn, .ref gl])), (gp, .inr (4, [.ref gpa, .int (nI om)])), (gpa, .inl (cI, 150, .inl op)), (gt, .inr (4, [.ref gta, .int (nI on)])), (gta, .inl (cI, 300, .inl ot)), (ge, .inl (cI, 301, .inl fe)), (gd, .inl (cI, 301, .inl fd)), (gs, .inl (cI, 301, .inl fs)), (gn, .inl (cI, 151, .inl (upd a1 i (nI i)))), (gl, .inl (cI, 151, .inl (upd a2 i 0)))] := hD
    refine lv_iinc (v := nI (i + 1)) (lv' := [(1, .int (nI (i + 1))), (0, .ref g)]) hx hb dX0_standAtFirstPlace_27 hl (k := 1) rfl (nI_add i 1) (by decide) rfl (fun ls hl => ?_)
    refine lv_goto (tgt := 2) hx hb dX0_standAtFirstPlace_30 (by decide) ?_
    exact ih_2 (om + 1 - (i + 1)) _ _ _ (by omega) ⟨i + 1, upd a1 i (nI i), upd a2 i 0, by omega, fun k q => by
        by_cases e9 : k = i
        · subst e9; rw [pk_us, pk_us]
        · rw [pk_un e9, pk_un e9]; exact hk k (by omega)
       , rfl, hP, hD, hS, lv_sub hl [1, 0] rfl⟩

set_option maxHeartbeats 4000000 in
set_option maxRecDepth 100000 in
theorem c_X0_keepWithin (l : Launch) (D : va_G) (cI cJ cL : ClassId) (sz : Nat) (g : Nat) (gp : Nat) (gpa : Nat) (gt : Nat) (gta : Nat) (ge : Nat) (gd : Nat) (gs : Nat) (gn : Nat) (gl : Nat) (om : Nat) (on : Nat) (cnt : Nat) (op : Nat → Int32) (ot : Nat → Int32) (fe : Nat → Int32) (fd : Nat → Int32) (fs : Nat → Int32) (fn : Nat → Int32) (fl : Nat → Int32) (bound : Int32) (mode : Int32) (pl : Nat) (hom : om ≤ 150) (hon : on ≤ 300) (hpl : pl ≤ 300) (hcn : cnt ≤ pl) :
    Met l yX0_keepWithin wsX0_keepWithin { frames := 1, cells := 0, slots := 0, locals := 20 } (va_Pc [.ref g, .int bound, .int (nI pl), .int mode] (Wd D [(cI, .int), (cJ, .array .int), (cL, .long)] [(g, .inr (0, [.ref gp, .ref gt, .ref ge, .ref gd, .ref gs, .int (nI cnt), .ref gn, .ref gl])), (gp, .inr (4, [.ref gpa, .int (nI om)])), (gpa, .inl (cI, 150, .inl op)), (gt, .inr (4, [.ref gta, .int (nI on)])), (gta, .inl (cI, 300, .inl ot)), (ge, .inl (cI, 301, .inl fe)), (gd, .inl (cI, 301, .inl fd)), (gs, .inl (cI, 301, .inl fs)), (gn, .inl (cI, 151, .inl fn)), (gl, .inl (cI, 151, .inl fl))] sz))
      (va_Qv (fun (_ : Unit) => True) (fun _ => Wa D [(cI, .int), (cJ, .array .int), (cL, .long)] (va_A [(g, .inr (0, [.ref gp, .ref gt, .ref ge, .ref gd, .ref gs, .int (nI cnt), .ref gn, .ref gl])), (gp, .inr (4, [.ref gpa, .int (nI om)])), (gpa, .inl (cI, 150, .inl op)), (gt, .inr (4, [.ref gta, .int (nI on)])), (gta, .inl (cI, 300, .inl ot)), (ge, .inl (cI, 301, .inl fe)), (gd, .inl (cI, 301, .inl fd)), (gs, .inl (cI, 301, .inl fs)), (gn, .inl (cI, 151, .inl fn)), (gl, .inl (cI, 151, .inl fl))] sz) ([(g, .inr (0, [.ref gp, .ref gt, .ref ge, .ref gd, .ref gs, .int (nI ((px_keep on mode bound pl (fn om, fl om) (cnt, fe, fd, fs)).1)), .ref gn, .ref gl])), (gp, .inr (4, [.ref gpa, .int (nI om)])), (gpa, .inl (cI, 150, .inl op)), (gt, .inr (4, [.ref gta, .int (nI on)])), (gta, .inl (cI, 300, .inl ot)), (ge, .inl (cI, 301, .inl ((px_keep on mode bound pl (fn om, fl om) (cnt, fe, fd, fs)).2.1))), (gd, .inl (cI, 301, .inl ((px_keep on mode bound pl (fn om, fl om) (cnt, fe, fd, fs)).2.2.1))), (gs, .inl (cI, 301, .inl ((px_keep on mode bound pl (fn om, fl om) (cnt, fe, fd, fs)).2.2.2))), (gn, .inl (cI, 151, .inl fn)), (gl, .inl (cI, 151, .inl fl))])) (va_A [(g, .inr (0, [.ref gp, .ref gt, .ref ge, .ref gd, .ref gs, .int (nI cnt), .ref gn, .ref gl])), (gp, .inr (4, [.ref gpa, .int (nI om)])), (gpa, .inl (cI, 150, .inl op)), (gt, .inr (4, [.ref gta, .int (nI on)])), (gta, .inl (cI, 300, .inl ot)), (ge, .inl (cI, 301, .inl fe)), (gd, .inl (cI, 301, .inl fd)), (gs, .inl (cI, 301, .inl fs)), (gn, .inl (cI, 151, .inl fn)), (gl, .inl (cI, 151, .inl fl))] sz)) 0 0 (va_A [(g, .inr (0, [.ref gp, .ref gt, .ref ge, .ref gd, .ref gs, .int (nI cnt), .ref gn, .ref gl])), (gp, .inr (4, [.ref gpa, .int (nI om)])), (gpa, .inl (cI, 150, .inl op)), (gt, .inr (4, [.ref gta, .int (nI on)])), (gta, .inl (cI, 300, .inl ot)), (ge, .inl (cI, 301, .inl fe)), (gd, .inl (cI, 301, .inl fd)), (gs, .inl (cI, 301, .inl fs)), (gn, .inl (cI, 151, .inl fn)), (gl, .inl (cI, 151, .inl fl))] sz) := by
  refine Met.ofW (cc := cX0_keepWithin) (maxL := 6) (ret := none) (by decide) rfl ?_
  intro p e s m args below meth c s₁ B hml hv
  obtain ⟨rfl, hsz, hP, hK, hD0⟩ := hv
  have hx := B.exec
  have hb := B.bytes
  have hr := B.returns
  have hts := atoms_spec (ws := wsX0_keepWithin) B.pre
  have hown : s.vm.findClass RX0 = some m.cls := findClass_of_methodNamed B.named
  have hlocks := B.notSynchronized
  subst hsz
  have hD := hD0.self (sz := s.heap.size)
  generalize hAe : va_A [(g, .inr (0, [.ref gp, .ref gt, .ref ge, .ref gd, .ref gs, .int (nI cnt), .ref gn, .ref gl])), (gp, .inr (4, [.ref gpa, .int (nI om)])), (gpa, .inl (cI, 150, .inl op)), (gt, .inr (4, [.ref gta, .int (nI on)])), (gta, .inl (cI, 300, .inl ot)), (ge, .inl (cI, 301, .inl fe)), (gd, .inl (cI, 301, .inl fd)), (gs, .inl (cI, 301, .inl fs)), (gn, .inl (cI, 151, .inl fn)), (gl, .inl (cI, 151, .inl fl))] s.heap.size = A at hD ⊢
  have hA : ∀ q : Nat, s.heap.size ≤ q → A q := fun q h => by rw [← hAe]; exact Or.inr h
  have hl := lv_entry ([.ref g, .int bound, .int (nI pl), .int mode]) (n := 6) (Nat.le_of_ble_eq_true rfl)
  rw [lg_entry_eq]
  generalize (lg_sl ([.ref g, .int bound, .int (nI pl), .int mode]) ++ List.replicate (6 - (lg_sl ([.ref g, .int bound, .int (nI pl), .int mode])).length) Slot.unset).toArray = ls at hl ⊢
  have hl : lv_has ls 6 [(0, .ref g), (1, .int bound), (2, .int (nI pl)), (3, .int mode)] := hl
  refine hv_start (A := A) (ws := [(g, .inr (0, [.ref gp, .ref gt, .ref ge, .ref gd, .ref gs, .int (nI cnt), .ref gn, .ref gl])), (gp, .inr (4, [.ref gpa, .int (nI om)])), (gpa, .inl (cI, 150, .inl op)), (gt, .inr (4, [.ref gta, .int (nI on)])), (gta, .inl (cI, 300, .inl ot)), (ge, .inl (cI, 301, .inl fe)), (gd, .inl (cI, 301, .inl fd)), (gs, .inl (cI, 301, .inl fs)), (gn, .inl (cI, 151, .inl fn)), (gl, .inl (cI, 151, .inl fl))]) hP (fun H locs hP hS => ?_)
  have w_0 := hts (.fieldLink RX0 14 "TextAligner$Findings" "pattern" "LTextAligner$SignRow;") (by decide +kernel)
  have i_X0 : ∀ w ∈ wsX00, w ∈ wsX0_keepWithin := by decide +kernel
  have w_2 := hts (.fieldLink RX0 37 "TextAligner$Findings" "nearest" "[I") (by decide +kernel)
  have w_3 := hts (.fieldLink RX0 33 "TextAligner$Findings" "size" "I") (by decide +kernel)
  have w_4 := hts (.fieldLink RX0 23 "TextAligner$Findings" "ends" "[I") (by decide +kernel)
  have w_5 := hts (.fieldLink RX0 27 "TextAligner$Findings" "distances" "[I") (by decide +kernel)
  have w_6 := hts (.fieldLink RX0 30 "TextAligner$Findings" "starts" "[I") (by decide +kernel)
  have w_7 := hts (.fieldLink RX0 40 "TextAligner$Findings" "lastStart" "[I") (by decide +kernel)
  have w_8 := hts (.fieldLink RX0 20 "TextAligner$Findings" "text" "LTextAligner$SignRow;") (by decide +kernel)
  refine lv_aload_n hx hb dX0_keepWithin_0 rfl (lv_at hl 0 rfl) ?_
  refine va_get (D := D) (ci := 0) (v := .ref gp) (C := RX0) (T := TX0) (N := 8) hx hb hts i_X0 hown hK hP 0 rfl rfl 0 (by decide) w_0 (fun _ h9 => h9) rfl dX0_keepWithin_1 ?_
  have fr := fr_x (wc := [(gp, .inr (4, [.ref gpa, .int (nI om)])), (gpa, .inl (cI, 150, .inl op))]) (wr := [(g, .inr (0, [.ref gp, .ref gt, .ref ge, .ref gd, .ref gs, .int (nI cnt), .ref gn, .ref gl])), (gt, .inr (4, [.ref gta, .int (nI on)])), (gta, .inl (cI, 300, .inl ot)), (ge, .inl (cI, 301, .inl fe)), (gd, .inl (cI, 301, .inl fd)), (gs, .inl (cI, 301, .inl fs)), (gn, .inl (cI, 151, .inl fn)), (gl, .inl (cI, 151, .inl fl))]) hP hD hS hA [1, 2] [0, 3, 4, 5, 6, 7, 8, 9] rfl rfl (by decide) (by decide) (by decide)
  refine cv_i (J := fun _ => [(g, .inr (0, [.ref gp, .ref gt, .ref ge, .ref gd, .ref gs, .int (nI cnt), .ref gn, .ref gl])), (gp, .inr (4, [.ref gpa, .int (nI om)])), (gpa, .inl (cI, 150, .inl op)), (gt, .inr (4, [.ref gta, .int (nI on)])), (gta, .inl (cI, 300, .inl ot)), (ge, .inl (cI, 301, .inl fe)), (gd, .inl (cI, 301, .inl fd)), (gs, .inl (cI, 301, .inl fs)), (gn, .inl (cI, 151, .inl fn)), (gl, .inl (cI, 151, .inl fl))]) (As := []) (rest := []) (q0 := 0) (ci := 4) ⟨hx, hb, hml, hown, hts⟩ (c_X4_size l D cI cJ cL H.size gp gpa 150 om op ) (cwV 0 hts gX0_keepWithin_X4_size rfl rfl rfl (by decide +kernel) ⟨Nat.le_of_ble_eq_true rfl, Nat.le_of_ble_eq_true rfl⟩) hK fr.1 fr.2.1 fr.2.2.1 (fun H1 u hk h1 h2 => ⟨(fr.2.2.2 _ H1 hk h1 h2).1.sub [0, 8, 9, 1, 2, 3, 4, 5, 6, 7] rfl, (fr.2.2.2 _ H1 hk h1 h2).2.sub [0, 8, 9, 1, 2, 3, 4, 5, 6, 7] (by decide) rfl⟩) hS rfl rfl rfl rfl hl.1 rfl (Nat.le_of_ble_eq_true rfl) dX0_keepWithin_4 ⟨Nat.zero_le _, Nat.zero_le _⟩ (fun r_2 u_1 H locs hw hP hD hS => ?_)
  subst hw
  refine lv_istore (lv' := [(4, .int (nI om)), (0, .ref g), (1, .int bound), (2, .int (nI pl)), (3, .int mode)]) hx hb dX0_keepWithin_7 hl (by decide) rfl (fun ls hl => ?_)
  refine lv_iload_n hx hb dX0_keepWithin_9 rfl (lv_at hl 4 rfl) ?_
  refine lv_if_ne (tgt := 24) hx hb dX0_keepWithin_10 (by decide) (fun c_10 => ?_) (fun c_10 => ?_)
  · refine lv_iconst (v := 1) hx hb dX0_keepWithin_24 (by decide) ?_
    refine lv_goto (tgt := 29) hx hb dX0_keepWithin_25 (by decide) ?_
    refine lv_istore (lv' := [(5, .int 1), (4, .int (nI om)), (0, .ref g), (1, .int bound), (2, .int (nI pl)), (3, .int mode)]) hx hb dX0_keepWithin_29 hl (by decide) rfl (fun ls hl => ?_)
    refine lv_iload hx hb dX0_keepWithin_31 (lv_at hl 0 rfl) ?_
    refine lv_if_eq (tgt := 111) hx hb dX0_keepWithin_33 (by decide) (fun c_33 => ?_) (fun c_33 => ?_)
    · exact absurd c_33 (by decide)
    · refine lv_aload_n hx hb dX0_keepWithin_36 rfl (lv_at hl 2 rfl) ?_
      refine va_get (D := D) (ci := 0) (v := .ref gn) (C := RX0) (T := TX0) (N := 8) hx hb hts i_X0 hown hK hP 0 rfl rfl 6 (by decide) w_2 (fun _ h9 => h9) rfl dX0_keepWithin_37 ?_
      refine lv_iload hx hb dX0_keepWithin_40 (lv_at hl 1 rfl) ?_
      refine va_ialdN hx hb hK hP 8 0 rfl rfl (k := om) (by omega) (by decide) dX0_keepWithin_42 ?_
      refine lv_iload_n hx hb dX0_keepWithin_43 rfl (lv_at hl 3 rfl) ?_
      refine lv_icmp_gt (tgt := 111) hx hb dX0_keepWithin_44 (by decide) (fun c_44 => ?_) (fun c_44 => ?_)
      · have e9 : px_keep on mode bound pl (fn om, fl om) (cnt, fe, fd, fs) = (cnt, fe, fd, fs) := if_neg (fun q => Int32.not_le.mpr c_44 q.2)
        exact fin_v () hx hb hr hlocks dX0_keepWithin_111 hK hS (by rw [e9]; exact hP) (by rw [e9]; exact hD) trivial
      · refine lv_aload_n hx hb dX0_keepWithin_47 rfl (lv_at hl 2 rfl) ?_
        refine va_get (D := D) (ci := 0) (v := .int (nI cnt)) (C := RX0) (T := TX0) (N := 8) hx hb hts i_X0 hown hK hP 0 rfl rfl 5 (by decide) w_3 (fun _ h9 => h9) rfl dX0_keepWithin_48 ?_
        refine lv_aload_n hx hb dX0_keepWithin_51 rfl (lv_at hl 2 rfl) ?_
        refine va_get (D := D) (ci := 0) (v := .ref ge) (C := RX0) (T := TX0) (N := 8) hx hb hts i_X0 hown hK hP 0 rfl rfl 2 (by decide) w_4 (fun _ h9 => h9) rfl dX0_keepWithin_52 ?_
        refine va_alen hx hb hK hP 5 0 rfl rfl (v := nI 301) rfl dX0_keepWithin_55 ?_
        refine lv_icmp_ge (tgt := 111) hx hb dX0_keepWithin_56 (by decide) (fun c_56 => ?_) (fun c_56 => ?_)
        · have k_56 : 301 ≤ cnt := (nI_leI (a := 301) (b := cnt) (by omega) (by omega)).mp c_56
          exact absurd k_56 (by omega)
        · have k_56 : ¬ (301 ≤ cnt) := fun q => c_56 ((nI_leI (a := 301) (b := cnt) (by omega) (by omega)).mpr q)
          refine lv_aload_n hx hb dX0_keepWithin_59 rfl (lv_at hl 2 rfl) ?_
          refine va_get (D := D) (ci := 0) (v := .ref ge) (C := RX0) (T := TX0) (N := 8) hx hb hts i_X0 hown hK hP 0 rfl rfl 2 (by decide) w_4 (fun _ h9 => h9) rfl dX0_keepWithin_60 ?_
          refine lv_aload_n hx hb dX0_keepWithin_63 rfl (lv_at hl 2 rfl) ?_
          refine va_get (D := D) (ci := 0) (v := .int (nI cnt)) (C := RX0) (T := TX0) (N := 8) hx hb hts i_X0 hown hK hP 0 rfl rfl 5 (by decide) w_3 (fun _ h9 => h9) rfl dX0_keepWithin_64 ?_
          refine lv_iload_n hx hb dX0_keepWithin_67 rfl (lv_at hl 4 rfl) ?_
          refine va_iastN hx hb hK hP hD hS 5 0 rfl rfl (k := cnt) (x := nI pl) (by omega) (by decide) dX0_keepWithin_68 (fun H locs hP hD hS => ?_)
          have hP : va_P D vwCl [(g, .inr (0, [.ref gp, .ref gt, .ref ge, .ref gd, .ref gs, .int (nI cnt), .ref gn, .ref gl])), (gp, .inr (4, [.ref gpa, .int (nI om)])), (gpa, .inl (cI, 150, .inl op)), (gt, .inr (4, [.ref gta, .int (nI on)])), (gta, .inl (cI, 300, .inl ot)), (ge, .inl (cI, 301, .inl (upd fe cnt (nI pl)))), (gd, .inl (cI, 301, .inl fd)), (gs, .inl (cI, 301, .inl fs)), (gn, .inl (cI, 151, .inl fn)), (gl, .inl (cI, 151, .inl fl))] H := hP
          have hD : va_D A [(g, .inr (0, [.ref gp, .ref gt, .ref ge, .ref gd, .ref gs, .int (nI cnt), .ref gn, .ref gl])), (gp, .inr (4, [.ref gpa, .int (nI om)])), (gpa, .inl (cI, 150, .inl op)), (gt, .inr (4, [.ref gta, .int (nI on)])), (gta, .inl (cI, 300, .inl ot)), (ge, .inl (cI, 301, .inl (upd fe cnt (nI pl)))), (gd, .inl (cI, 301, .inl fd)), (gs, .inl (cI, 301, .inl fs)), (gn, .inl (cI, 151, .inl fn)), (gl, .inl (cI, 151, .inl fl))] := hD
          refine lv_aload_n hx hb dX0_keepWithin_69 rfl (lv_at hl 2 rfl) ?_
          refine va_get (D := D) (ci := 0) (v := .ref gd) (C := RX0) (T := TX0) (N := 8) hx hb hts i_X0 hown hK hP 0 rfl rfl 3 (by decide) w_5 (fun _ h9 => h9) rfl dX0_keepWithin_70 ?_
          refine lv_aload_n hx hb dX0_keepWithin_73 rfl (lv_at hl 2 rfl) ?_
          refine va_get (D := D) (ci := 0) (v := .int (nI cnt)) (C := RX0) (T := TX0) (N := 8) hx hb hts i_X0 hown hK hP 0 rfl rfl 5 (by decide) w_3 (fun _ h9 => h9) rfl dX0_keepWithin_74 ?_
          refine lv_aload_n hx hb dX0_keepWithin_77 rfl (lv_at hl 2 rfl) ?_
          refine va_get (D := D) (ci := 0) (v := .ref gn) (C := RX0) (T := TX0) (N := 8) hx hb hts i_X0 hown hK hP 0 rfl rfl 6 (by decide) w_2 (fun _ h9 => h9) rfl dX0_keepWithin_78 ?_
          refine lv_iload hx hb dX0_keepWithin_81 (lv_at hl 1 rfl) ?_
          refine va_ialdN hx hb hK hP 8 0 rfl rfl (k := om) (by omega) (by decide) dX0_keepWithin_83 ?_
          refine va_iastN hx hb hK hP hD hS 6 0 rfl rfl (k := cnt) (x := fn om) (by omega) (by decide) dX0_keepWithin_84 (fun H locs hP hD hS => ?_)
          have hP : va_P D vwCl [(g, .inr (0, [.ref gp, .ref gt, .ref ge, .ref gd, .ref gs, .int (nI cnt), .ref gn, .ref gl])), (gp, .inr (4, [.ref gpa, .int (nI om)])), (gpa, .inl (cI, 150, .inl op)), (gt, .inr (4, [.ref gta, .int (nI on)])), (gta, .inl (cI, 300, .inl ot)), (ge, .inl (cI, 301, .inl (upd fe cnt (nI pl)))), (gd, .inl (cI, 301, .inl (upd fd cnt (fn om)))), (gs, .inl (cI, 301, .inl fs)), (gn, .inl (cI, 151, .inl fn)), (gl, .inl (cI, 151, .inl fl))] H := hP
          have hD : va_D A [(g, .inr (0, [.ref gp, .ref gt, .ref ge, .ref gd, .ref gs, .int (nI cnt), .ref gn, .ref gl])), (gp, .inr (4, [.ref gpa, .int (nI om)])), (gpa, .inl (cI, 150, .inl op)), (gt, .inr (4, [.ref gta, .int (nI on)])), (gta, .inl (cI, 300, .inl ot)), (ge, .inl (cI, 301, .inl (upd fe cnt (nI pl)))), (gd, .inl (cI, 301, .inl (upd fd cnt (fn om)))), (gs, .inl (cI, 301, .inl fs)), (gn, .inl (cI, 151, .inl fn)), (gl, .inl (cI, 151, .inl fl))] := hD
          refine lv_aload_n hx hb dX0_keepWithin_85 rfl (lv_at hl 2 rfl) ?_
          refine va_get (D := D) (ci := 0) (v := .ref gs) (C := RX0) (T := TX0) (N := 8) hx hb hts i_X0 hown hK hP 0 rfl rfl 4 (by decide) w_6 (fun _ h9 => h9) rfl dX0_keepWithin_86 ?_
          refine lv_aload_n hx hb dX0_keepWithin_89 rfl (lv_at hl 2 rfl) ?_
          refine va_get (D := D) (ci := 0) (v := .int (nI cnt)) (C := RX0) (T := TX0) (N := 8) hx hb hts i_X0 hown hK hP 0 rfl rfl 5 (by decide) w_3 (fun _ h9 => h9) rfl dX0_keepWithin_90 ?_
          refine lv_aload_n hx hb dX0_keepWithin_93 rfl (lv_at hl 2 rfl) ?_
          refine va_get (D := D) (ci := 0) (v := .ref gl) (C := RX0) (T := TX0) (N := 8) hx hb hts i_X0 hown hK hP 0 rfl rfl 7 (by decide) w_7 (fun _ h9 => h9) rfl dX0_keepWithin_94 ?_
          refine lv_iload hx hb dX0_keepWithin_97 (lv_at hl 1 rfl) ?_
          refine va_ialdN hx hb hK hP 9 0 rfl rfl (k := om) (by omega) (by decide) dX0_keepWithin_99 ?_
          refine va_iastN hx hb hK hP hD hS 7 0 rfl rfl (k := cnt) (x := fl om) (by omega) (by decide) dX0_keepWithin_100 (fun H locs hP hD hS => ?_)
          have hP : va_P D vwCl [(g, .inr (0, [.ref gp, .ref gt, .ref ge, .ref gd, .ref gs, .int (nI cnt), .ref gn, .ref gl])), (gp, .inr (4, [.ref gpa, .int (nI om)])), (gpa, .inl (cI, 150, .inl op)), (gt, .inr (4, [.ref gta, .int (nI on)])), (gta, .inl (cI, 300, .inl ot)), (ge, .inl (cI, 301, .inl (upd fe cnt (nI pl)))), (gd, .inl (cI, 301, .inl (upd fd cnt (fn om)))), (gs, .inl (cI, 301, .inl (upd fs cnt (fl om)))), (gn, .inl (cI, 151, .inl fn)), (gl, .inl (cI, 151, .inl fl))] H := hP
          have hD : va_D A [(g, .inr (0, [.ref gp, .ref gt, .ref ge, .ref gd, .ref gs, .int (nI cnt), .ref gn, .ref gl])), (gp, .inr (4, [.ref gpa, .int (nI om)])), (gpa, .inl (cI, 150, .inl op)), (gt, .inr (4, [.ref gta, .int (nI on)])), (gta, .inl (cI, 300, .inl ot)), (ge, .inl (cI, 301, .inl (upd fe cnt (nI pl)))), (gd, .inl (cI, 301, .inl (upd fd cnt (fn om)))), (gs, .inl (cI, 301, .inl (upd fs cnt (fl om)))), (gn, .inl (cI, 151, .inl fn)), (gl, .inl (cI, 151, .inl fl))] := hD
          refine lv_aload_n hx hb dX0_keepWithin_101 rfl (lv_at hl 2 rfl) ?_
          refine lv_dup hx hb dX0_keepWithin_102 rfl ?_
          refine va_get (D := D) (ci := 0) (v := .int (nI cnt)) (C := RX0) (T := TX0) (N := 8) hx hb hts i_X0 hown hK hP 0 rfl rfl 5 (by decide) w_3 (fun _ h9 => h9) rfl dX0_keepWithin_103 ?_
          refine lv_iconst (v := 1) hx hb dX0_keepWithin_106 (by decide) ?_
          refine lv_iadd hx hb dX0_keepWithin_107 ?_
          refine lv_cv (y := nI (cnt + 1)) (nI_add cnt 1) ?_
          refine va_put (D := D) (ci := 0) (v := .int (nI (cnt + 1))) (ty := .int) (C := RX0) (T := TX0) (N := 8) hx hb hts i_X0 tyX0 tyX0_ok nmX0 hown hK hP hD hS 0 rfl rfl 5 (by decide) w_3 (fun _ h9 => h9) rfl (by decide +kernel) rfl rfl (Nat.le_of_ble_eq_true rfl) dX0_keepWithin_108 (fun H locs hP hD hS => ?_)
          have hP : va_P D vwCl [(g, .inr (0, [.ref gp, .ref gt, .ref ge, .ref gd, .ref gs, .int (nI (cnt + 1)), .ref gn, .ref gl])), (gp, .inr (4, [.ref gpa, .int (nI om)])), (gpa, .inl (cI, 150, .inl op)), (gt, .inr (4, [.ref gta, .int (nI on)])), (gta, .inl (cI, 300, .inl ot)), (ge, .inl (cI, 301, .inl (upd fe cnt (nI pl)))), (gd, .inl (cI, 301, .inl (upd fd cnt (fn om)))), (gs, .inl (cI, 301, .inl (upd fs cnt (fl om)))), (gn, .inl (cI, 151, .inl fn)), (gl, .inl (cI, 151, .inl fl))] H := hP
          have hD : va_D A [(g, .inr (0, [.ref gp, .ref gt, .ref ge, .ref gd, .ref gs, .int (nI (cnt + 1)), .ref gn, .ref gl])), (gp, .inr (4, [.ref gpa, .int (nI om)])), (gpa, .inl (cI, 150, .inl op)), (gt, .inr (4, [.ref gta, .int (nI on)])), (gta, .inl (cI, 300, .inl ot)), (ge, .inl (cI, 301, .inl (upd fe cnt (nI pl)))), (gd, .inl (cI, 301, .inl (upd fd cnt (fn om)))), (gs, .inl (cI, 301, .inl (upd fs cnt (fl om)))), (gn, .inl (cI, 151, .inl fn)), (gl, .inl (cI, 151, .inl fl))] := hD
          have e9 : px_keep on mode bound pl (fn om, fl om) (cnt, fe, fd, fs) = (cnt + 1, upd fe cnt (nI pl), upd fd cnt (fn om), upd fs cnt (fl om)) := if_pos ⟨Or.inl c_10, Int32.not_lt.mp c_44⟩
          exact fin_v () hx hb hr hlocks dX0_keepWithin_111 hK hS (by rw [e9]; exact hP) (by rw [e9]; exact hD) trivial
  · refine lv_iload_n hx hb dX0_keepWithin_13 rfl (lv_at hl 3 rfl) ?_
    refine lv_aload_n hx hb dX0_keepWithin_14 rfl (lv_at hl 1 rfl) ?_
    refine va_get (D := D) (ci := 0) (v := .ref gt) (C := RX0) (T := TX0) (N := 8) hx hb hts i_X0 hown hK hP 0 rfl rfl 1 (by decide) w_8 (fun _ h9 => h9) rfl dX0_keepWithin_15 ?_
    have fr := fr_x (wc := [(gt, .inr (4, [.ref gta, .int (nI on)])), (gta, .inl (cI, 300, .inl ot))]) (wr := [(g, .inr (0, [.ref gp, .ref gt, .ref ge, .ref gd, .ref gs, .int (nI cnt), .ref gn, .ref gl])), (gp, .inr (4, [.ref gpa, .int (nI om)])), (gpa, .inl (cI, 150, .inl op)), (ge, .inl (cI, 301, .inl fe)), (gd, .inl (cI, 301, .inl fd)), (gs, .inl (cI, 301, .inl fs)), (gn, .inl (cI, 151, .inl fn)), (gl, .inl (cI, 151, .inl fl))]) hP hD hS hA [3, 4] [0, 1, 2, 5, 6, 7, 8, 9] rfl rfl (by decide) (by decide) (by decide)
    refine cv_i (J := fun _ => [(g, .inr (0, [.ref gp, .ref gt, .ref ge, .ref gd, .ref gs, .int (nI cnt), .ref gn, .ref gl])), (gp, .inr (4, [.ref gpa, .int (nI om)])), (gpa, .inl (cI, 150, .inl op)), (gt, .inr (4, [.ref gta, .int (nI on)])), (gta, .inl (cI, 300, .inl ot)), (ge, .inl (cI, 301, .inl fe)), (gd, .inl (cI, 301, .inl fd)), (gs, .inl (cI, 301, .inl fs)), (gn, .inl (cI, 151, .inl fn)), (gl, .inl (cI, 151, .inl fl))]) (As := []) (rest := [.int (nI pl)]) (q0 := 0) (ci := 4) ⟨hx, hb, hml, hown, hts⟩ (c_X4_size l D cI cJ cL H.size gt gta 300 on ot ) (cwV 0 hts gX0_keepWithin_X4_size rfl rfl rfl (by decide +kernel) ⟨Nat.le_of_ble_eq_true rfl, Nat.le_of_ble_eq_true rfl⟩) hK fr.1 fr.2.1 fr.2.2.1 (fun H1 u hk h1 h2 => ⟨(fr.2.2.2 _ H1 hk h1 h2).1.sub [0, 1, 2, 8, 9, 3, 4, 5, 6, 7] rfl, (fr.2.2.2 _ H1 hk h1 h2).2.sub [0, 1, 2, 8, 9, 3, 4, 5, 6, 7] (by decide) rfl⟩) hS rfl rfl rfl rfl hl.1 rfl (Nat.le_of_ble_eq_true rfl) dX0_keepWithin_18 ⟨Nat.zero_le _, Nat.zero_le _⟩ (fun r_4 u_3 H locs hw hP hD hS => ?_)
    subst hw
    refine lv_icmp_ne (tgt := 28) hx hb dX0_keepWithin_21 (by decide) (fun c_21 => ?_) (fun c_21 => ?_)
    · have k_21 : ¬ (pl = on) := fun q => c_21 ((nI_eq (a := pl) (b := on) (by omega) (by omega)).mpr q)
      refine lv_iconst (v := 0) hx hb dX0_keepWithin_28 (by decide) ?_
      refine lv_istore (lv' := [(5, .int 0), (4, .int (nI om)), (0, .ref g), (1, .int bound), (2, .int (nI pl)), (3, .int mode)]) hx hb dX0_keepWithin_29 hl (by decide) rfl (fun ls hl => ?_)
      refine lv_iload hx hb dX0_keepWithin_31 (lv_at hl 0 rfl) ?_
      refine lv_if_eq (tgt := 111) hx hb dX0_keepWithin_33 (by decide) (fun c_33 => ?_) (fun c_33 => ?_)
      · have e9 : px_keep on mode bound pl (fn om, fl om) (cnt, fe, fd, fs) = (cnt, fe, fd, fs) := if_neg (fun q => q.1.elim (fun q => q c_10) k_21)
        exact fin_v () hx hb hr hlocks dX0_keepWithin_111 hK hS (by rw [e9]; exact hP) (by rw [e9]; exact hD) trivial
      · exact absurd c_33 (by decide)
    · have k_21 : pl = on := (nI_eq (a := pl) (b := on) (by omega) (by omega)).mp c_21
      refine lv_iconst (v := 1) hx hb dX0_keepWithin_24 (by decide) ?_
      refine lv_goto (tgt := 29) hx hb dX0_keepWithin_25 (by decide) ?_
      refine lv_istore (lv' := [(5, .int 1), (4, .int (nI om)), (0, .ref g), (1, .int bound), (2, .int (nI pl)), (3, .int mode)]) hx hb dX0_keepWithin_29 hl (by decide) rfl (fun ls hl => ?_)
      refine lv_iload hx hb dX0_keepWithin_31 (lv_at hl 0 rfl) ?_
      refine lv_if_eq (tgt := 111) hx hb dX0_keepWithin_33 (by decide) (fun c_33 => ?_) (fun c_33 => ?_)
      · exact absurd c_33 (by decide)
      · refine lv_aload_n hx hb dX0_keepWithin_36 rfl (lv_at hl 2 rfl) ?_
        refine va_get (D := D) (ci := 0) (v := .ref gn) (C := RX0) (T := TX0) (N := 8) hx hb hts i_X0 hown hK hP 0 rfl rfl 6 (by decide) w_2 (fun _ h9 => h9) rfl dX0_keepWithin_37 ?_
        refine lv_iload hx hb dX0_keepWithin_40 (lv_at hl 1 rfl) ?_
        refine va_ialdN hx hb hK hP 8 0 rfl rfl (k := om) (by omega) (by decide) dX0_keepWithin_42 ?_
        refine lv_iload_n hx hb dX0_keepWithin_43 rfl (lv_at hl 3 rfl) ?_
        refine lv_icmp_gt (tgt := 111) hx hb dX0_keepWithin_44 (by decide) (fun c_44 => ?_) (fun c_44 => ?_)
        · have e9 : px_keep on mode bound pl (fn om, fl om) (cnt, fe, fd, fs) = (cnt, fe, fd, fs) := if_neg (fun q => Int32.not_le.mpr c_44 q.2)
          exact fin_v () hx hb hr hlocks dX0_keepWithin_111 hK hS (by rw [e9]; exact hP) (by rw [e9]; exact hD) trivial
        · refine lv_aload_n hx hb dX0_keepWithin_47 rfl (lv_at hl 2 rfl) ?_
          refine va_get (D := D) (ci := 0) (v := .int (nI cnt)) (C := RX0) (T := TX0) (N := 8) hx hb hts i_X0 hown hK hP 0 rfl rfl 5 (by decide) w_3 (fun _ h9 => h9) rfl dX0_keepWithin_48 ?_
          refine lv_aload_n hx hb dX0_keepWithin_51 rfl (lv_at hl 2 rfl) ?_
          refine va_get (D := D) (ci := 0) (v := .ref ge) (C := RX0) (T := TX0) (N := 8) hx hb hts i_X0 hown hK hP 0 rfl rfl 2 (by decide) w_4 (fun _ h9 => h9) rfl dX0_keepWithin_52 ?_
          refine va_alen hx hb hK hP 5 0 rfl rfl (v := nI 301) rfl dX0_keepWithin_55 ?_
          refine lv_icmp_ge (tgt := 111) hx hb dX0_keepWithin_56 (by decide) (fun c_56 => ?_) (fun c_56 => ?_)
          · have k_56 : 301 ≤ cnt := (nI_leI (a := 301) (b := cnt) (by omega) (by omega)).mp c_56
            exact absurd k_56 (by omega)
          · have k_56 : ¬ (301 ≤ cnt) := fun q => c_56 ((nI_leI (a := 301) (b := cnt) (by omega) (by omega)).mpr q)
            refine lv_aload_n hx hb dX0_keepWithin_59 rfl (lv_at hl 2 rfl) ?_
            refine va_get (D := D) (ci := 0) (v := .ref ge) (C := RX0) (T := TX0) (N := 8) hx hb hts i_X0 hown hK hP 0 rfl rfl 2 (by decide) w_4 (fun _ h9 => h9) rfl dX0_keepWithin_60 ?_
            refine lv_aload_n hx hb dX0_keepWithin_63 rfl (lv_at hl 2 rfl) ?_
            refine va_get (D := D) (ci := 0) (v := .int (nI cnt)) (C := RX0) (T := TX0) (N := 8) hx hb hts i_X0 hown hK hP 0 rfl rfl 5 (by decide) w_3 (fun _ h9 => h9) rfl dX0_keepWithin_64 ?_
            refine lv_iload_n hx hb dX0_keepWithin_67 rfl (lv_at hl 4 rfl) ?_
            refine va_iastN hx hb hK hP hD hS 5 0 rfl rfl (k := cnt) (x := nI pl) (by omega) (by decide) dX0_keepWithin_68 (fun H locs hP hD hS => ?_)
            have hP : va_P D vwCl [(g, .inr (0, [.ref gp, .ref gt, .ref ge, .ref gd, .ref gs, .int (nI cnt), .ref gn, .ref gl])), (gp, .inr (4, [.ref gpa, .int (nI om)])), (gpa, .inl (cI, 150, .inl op)), (gt, .inr (4, [.ref gta, .int (nI on)])), (gta, .inl (cI, 300, .inl ot)), (ge, .inl (cI, 301, .inl (upd fe cnt (nI pl)))), (gd, .inl (cI, 301, .inl fd)), (gs, .inl (cI, 301, .inl fs)), (gn, .inl (cI, 151, .inl fn)), (gl, .inl (cI, 151, .inl fl))] H := hP
            have hD : va_D A [(g, .inr (0, [.ref gp, .ref gt, .ref ge, .ref gd, .ref gs, .int (nI cnt), .ref gn, .ref gl])), (gp, .inr (4, [.ref gpa, .int (nI om)])), (gpa, .inl (cI, 150, .inl op)), (gt, .inr (4, [.ref gta, .int (nI on)])), (gta, .inl (cI, 300, .inl ot)), (ge, .inl (cI, 301, .inl (upd fe cnt (nI pl)))), (gd, .inl (cI, 301, .inl fd)), (gs, .inl (cI, 301, .inl fs)), (gn, .inl (cI, 151, .inl fn)), (gl, .inl (cI, 151, .inl fl))] := hD
            refine lv_aload_n hx hb dX0_keepWithin_69 rfl (lv_at hl 2 rfl) ?_
            refine va_get (D := D) (ci := 0) (v := .ref gd) (C := RX0) (T := TX0) (N := 8) hx hb hts i_X0 hown hK hP 0 rfl rfl 3 (by decide) w_5 (fun _ h9 => h9) rfl dX0_keepWithin_70 ?_
            refine lv_aload_n hx hb dX0_keepWithin_73 rfl (lv_at hl 2 rfl) ?_
            refine va_get (D := D) (ci := 0) (v := .int (nI cnt)) (C := RX0) (T := TX0) (N := 8) hx hb hts i_X0 hown hK hP 0 rfl rfl 5 (by decide) w_3 (fun _ h9 => h9) rfl dX0_keepWithin_74 ?_
            refine lv_aload_n hx hb dX0_keepWithin_77 rfl (lv_at hl 2 rfl) ?_
            refine va_get (D := D) (ci := 0) (v := .ref gn) (C := RX0) (T := TX0) (N := 8) hx hb hts i_X0 hown hK hP 0 rfl rfl 6 (by decide) w_2 (fun _ h9 => h9) rfl dX0_keepWithin_78 ?_
            refine lv_iload hx hb dX0_keepWithin_81 (lv_at hl 1 rfl) ?_
            refine va_ialdN hx hb hK hP 8 0 rfl rfl (k := om) (by omega) (by decide) dX0_keepWithin_83 ?_
            refine va_iastN hx hb hK hP hD hS 6 0 rfl rfl (k := cnt) (x := fn om) (by omega) (by decide) dX0_keepWithin_84 (fun H locs hP hD hS => ?_)
            have hP : va_P D vwCl [(g, .inr (0, [.ref gp, .ref gt, .ref ge, .ref gd, .ref gs, .int (nI cnt), .ref gn, .ref gl])), (gp, .inr (4, [.ref gpa, .int (nI om)])), (gpa, .inl (cI, 150, .inl op)), (gt, .inr (4, [.ref gta, .int (nI on)])), (gta, .inl (cI, 300, .inl ot)), (ge, .inl (cI, 301, .inl (upd fe cnt (nI pl)))), (gd, .inl (cI, 301, .inl (upd fd cnt (fn om)))), (gs, .inl (cI, 301, .inl fs)), (gn, .inl (cI, 151, .inl fn)), (gl, .inl (cI, 151, .inl fl))] H := hP
            have hD : va_D A [(g, .inr (0, [.ref gp, .ref gt, .ref ge, .ref gd, .ref gs, .int (nI cnt), .ref gn, .ref gl])), (gp, .inr (4, [.ref gpa, .int (nI om)])), (gpa, .inl (cI, 150, .inl op)), (gt, .inr (4, [.ref gta, .int (nI on)])), (gta, .inl (cI, 300, .inl ot)), (ge, .inl (cI, 301, .inl (upd fe cnt (nI pl)))), (gd, .inl (cI, 301, .inl (upd fd cnt (fn om)))), (gs, .inl (cI, 301, .inl fs)), (gn, .inl (cI, 151, .inl fn)), (gl, .inl (cI, 151, .inl fl))] := hD
            refine lv_aload_n hx hb dX0_keepWithin_85 rfl (lv_at hl 2 rfl) ?_
            refine va_get (D := D) (ci := 0) (v := .ref gs) (C := RX0) (T := TX0) (N := 8) hx hb hts i_X0 hown hK hP 0 rfl rfl 4 (by decide) w_6 (fun _ h9 => h9) rfl dX0_keepWithin_86 ?_
            refine lv_aload_n hx hb dX0_keepWithin_89 rfl (lv_at hl 2 rfl) ?_
            refine va_get (D := D) (ci := 0) (v := .int (nI cnt)) (C := RX0) (T := TX0) (N := 8) hx hb hts i_X0 hown hK hP 0 rfl rfl 5 (by decide) w_3 (fun _ h9 => h9) rfl dX0_keepWithin_90 ?_
            refine lv_aload_n hx hb dX0_keepWithin_93 rfl (lv_at hl 2 rfl) ?_
            refine va_get (D := D) (ci := 0) (v := .ref gl) (C := RX0) (T := TX0) (N := 8) hx hb hts i_X0 hown hK hP 0 rfl rfl 7 (by decide) w_7 (fun _ h9 => h9) rfl dX0_keepWithin_94 ?_
            refine lv_iload hx hb dX0_keepWithin_97 (lv_at hl 1 rfl) ?_
            refine va_ialdN hx hb hK hP 9 0 rfl rfl (k := om) (by omega) (by decide) dX0_keepWithin_99 ?_
            refine va_iastN hx hb hK hP hD hS 7 0 rfl rfl (k := cnt) (x := fl om) (by omega) (by decide) dX0_keepWithin_100 (fun H locs hP hD hS => ?_)
            have hP : va_P D vwCl [(g, .inr (0, [.ref gp, .ref gt, .ref ge, .ref gd, .ref gs, .int (nI cnt), .ref gn, .ref gl])), (gp, .inr (4, [.ref gpa, .int (nI om)])), (gpa, .inl (cI, 150, .inl op)), (gt, .inr (4, [.ref gta, .int (nI on)])), (gta, .inl (cI, 300, .inl ot)), (ge, .inl (cI, 301, .inl (upd fe cnt (nI pl)))), (gd, .inl (cI, 301, .inl (upd fd cnt (fn om)))), (gs, .inl (cI, 301, .inl (upd fs cnt (fl om)))), (gn, .inl (cI, 151, .inl fn)), (gl, .inl (cI, 151, .inl fl))] H := hP
            have hD : va_D A [(g, .inr (0, [.ref gp, .ref gt, .ref ge, .ref gd, .ref gs, .int (nI cnt), .ref gn, .ref gl])), (gp, .inr (4, [.ref gpa, .int (nI om)])), (gpa, .inl (cI, 150, .inl op)), (gt, .inr (4, [.ref gta, .int (nI on)])), (gta, .inl (cI, 300, .inl ot)), (ge, .inl (cI, 301, .inl (upd fe cnt (nI pl)))), (gd, .inl (cI, 301, .inl (upd fd cnt (fn om)))), (gs, .inl (cI, 301, .inl (upd fs cnt (fl om)))), (gn, .inl (cI, 151, .inl fn)), (gl, .inl (cI, 151, .inl fl))] := hD
            refine lv_aload_n hx hb dX0_keepWithin_101 rfl (lv_at hl 2 rfl) ?_
            refine lv_dup hx hb dX0_keepWithin_102 rfl ?_
            refine va_get (D := D) (ci := 0) (v := .int (nI cnt)) (C := RX0) (T := TX0) (N := 8) hx hb hts i_X0 hown hK hP 0 rfl rfl 5 (by decide) w_3 (fun _ h9 => h9) rfl dX0_keepWithin_103 ?_
            refine lv_iconst (v := 1) hx hb dX0_keepWithin_106 (by decide) ?_
            refine lv_iadd hx hb dX0_keepWithin_107 ?_
            refine lv_cv (y := nI (cnt + 1)) (nI_add cnt 1) ?_
            refine va_put (D := D) (ci := 0) (v := .int (nI (cnt + 1))) (ty := .int) (C := RX0) (T := TX0) (N := 8) hx hb hts i_X0 tyX0 tyX0_ok nmX0 hown hK hP hD hS 0 rfl rfl 5 (by decide) w_3 (fun _ h9 => h9) rfl (by decide +kernel) rfl rfl (Nat.le_of_ble_eq_true rfl) dX0_keepWithin_108 (fun H locs hP hD hS => ?_)
            have hP : va_P D vwCl [(g, .inr (0, [.ref gp, .ref gt, .ref ge, .ref gd, .ref gs, .int (nI (cnt + 1)), .ref gn, .ref gl])), (gp, .inr (4, [.ref gpa, .int (nI om)])), (gpa, .inl (cI, 150, .inl op)), (gt, .inr (4, [.ref gta, .int (nI on)])), (gta, .inl (cI, 300, .inl ot)), (ge, .inl (cI, 301, .inl (upd fe cnt (nI pl)))), (gd, .inl (cI, 301, .inl (upd fd cnt (fn om)))), (gs, .inl (cI, 301, .inl (upd fs cnt (fl om)))), (gn, .inl (cI, 151, .inl fn)), (gl, .inl (cI, 151, .inl fl))] H := hP
            have hD : va_D A [(g, .inr (0, [.ref gp, .ref gt, .ref ge, .ref gd, .ref gs, .int (nI (cnt + 1)), .ref gn, .ref gl])), (gp, .inr (4, [.ref gpa, .int (nI om)])), (gpa, .inl (cI, 150, .inl op)), (gt, .inr (4, [.ref gta, .int (nI on)])), (gta, .inl (cI, 300, .inl ot)), (ge, .inl (cI, 301, .inl (upd fe cnt (nI pl)))), (gd, .inl (cI, 301, .inl (upd fd cnt (fn om)))), (gs, .inl (cI, 301, .inl (upd fs cnt (fl om)))), (gn, .inl (cI, 151, .inl fn)), (gl, .inl (cI, 151, .inl fl))] := hD
            have e9 : px_keep on mode bound pl (fn om, fl om) (cnt, fe, fd, fs) = (cnt + 1, upd fe cnt (nI pl), upd fd cnt (fn om), upd fs cnt (fl om)) := if_pos ⟨Or.inr k_21, Int32.not_lt.mp c_44⟩
            exact fin_v () hx hb hr hlocks dX0_keepWithin_111 hK hS (by rw [e9]; exact hP) (by rw [e9]; exact hD) trivial

set_option maxHeartbeats 4000000 in
set_option maxRecDepth 100000 in
theorem c_X0_moveTo (l : Launch) (D : va_G) (cI cJ cL : ClassId) (sz : Nat) (g : Nat) (gp : Nat) (gpa : Nat) (gt : Nat) (gta : Nat) (ge : Nat) (gd : Nat) (gs : Nat) (gn : Nat) (gl : Nat) (om : Nat) (on : Nat) (cnt : Nat) (op : Nat → Int32) (ot : Nat → Int32) (fe : Nat → Int32) (fd : Nat → Int32) (fs : Nat → Int32) (fn : Nat → Int32) (fl : Nat → Int32) (j : Nat) (mode : Int32) (prev : Nat → Int32 × Int32) (hom : om ≤ 150) (hon : on ≤ 300) (hj : j < on) (hpv : ∀ k, k ≤ om → (fn k, fl k) = prev k) :
    Met l yX0_moveTo wsX0_moveTo { frames := 1, cells := 0, slots := 0, locals := 23 } (va_Pc [.ref g, .int (nI (j + 1)), .int mode] (Wd D [(cI, .int), (cJ, .array .int), (cL, .long)] [(g, .inr (0, [.ref gp, .ref gt, .ref ge, .ref gd, .ref gs, .int (nI cnt), .ref gn, .ref gl])), (gp, .inr (4, [.ref gpa, .int (nI om)])), (gpa, .inl (cI, 150, .inl op)), (gt, .inr (4, [.ref gta, .int (nI on)])), (gta, .inl (cI, 300, .inl ot)), (ge, .inl (cI, 301, .inl fe)), (gd, .inl (cI, 301, .inl fd)), (gs, .inl (cI, 301, .inl fs)), (gn, .inl (cI, 151, .inl fn)), (gl, .inl (cI, 151, .inl fl))] sz))
      (va_Qv (fun (u : (Nat → Int32) × (Nat → Int32)) => ∀ k, k ≤ om → (u.1 k, u.2 k) = px_next op (ot j) (px_fst mode (j + 1)) prev k) (fun u => Wa D [(cI, .int), (cJ, .array .int), (cL, .long)] (va_A [(g, .inr (0, [.ref gp, .ref gt, .ref ge, .ref gd, .ref gs, .int (nI cnt), .ref gn, .ref gl])), (gp, .inr (4, [.ref gpa, .int (nI om)])), (gpa, .inl (cI, 150, .inl op)), (gt, .inr (4, [.ref gta, .int (nI on)])), (gta, .inl (cI, 300, .inl ot)), (ge, .inl (cI, 301, .inl fe)), (gd, .inl (cI, 301, .inl fd)), (gs, .inl (cI, 301, .inl fs)), (gn, .inl (cI, 151, .inl fn)), (gl, .inl (cI, 151, .inl fl))] sz) ([(g, .inr (0, [.ref gp, .ref gt, .ref ge, .ref gd, .ref gs, .int (nI cnt), .ref gn, .ref gl])), (gp, .inr (4, [.ref gpa, .int (nI om)])), (gpa, .inl (cI, 150, .inl op)), (gt, .inr (4, [.ref gta, .int (nI on)])), (gta, .inl (cI, 300, .inl ot)), (ge, .inl (cI, 301, .inl fe)), (gd, .inl (cI, 301, .inl fd)), (gs, .inl (cI, 301, .inl fs)), (gn, .inl (cI, 151, .inl u.1)), (gl, .inl (cI, 151, .inl u.2))])) (va_A [(g, .inr (0, [.ref gp, .ref gt, .ref ge, .ref gd, .ref gs, .int (nI cnt), .ref gn, .ref gl])), (gp, .inr (4, [.ref gpa, .int (nI om)])), (gpa, .inl (cI, 150, .inl op)), (gt, .inr (4, [.ref gta, .int (nI on)])), (gta, .inl (cI, 300, .inl ot)), (ge, .inl (cI, 301, .inl fe)), (gd, .inl (cI, 301, .inl fd)), (gs, .inl (cI, 301, .inl fs)), (gn, .inl (cI, 151, .inl fn)), (gl, .inl (cI, 151, .inl fl))] sz)) 0 0 (va_A [(g, .inr (0, [.ref gp, .ref gt, .ref ge, .ref gd, .ref gs, .int (nI cnt), .ref gn, .ref gl])), (gp, .inr (4, [.ref gpa, .int (nI om)])), (gpa, .inl (cI, 150, .inl op)), (gt, .inr (4, [.ref gta, .int (nI on)])), (gta, .inl (cI, 300, .inl ot)), (ge, .inl (cI, 301, .inl fe)), (gd, .inl (cI, 301, .inl fd)), (gs, .inl (cI, 301, .inl fs)), (gn, .inl (cI, 151, .inl fn)), (gl, .inl (cI, 151, .inl fl))] sz) := by
  refine Met.ofW (cc := cX0_moveTo) (maxL := 10) (ret := none) (by decide) rfl ?_
  intro p e s m args below meth c s₁ B hml hv
  obtain ⟨rfl, hsz, hP, hK, hD0⟩ := hv
  have hx := B.exec
  have hb := B.bytes
  have hr := B.returns
  have hts := atoms_spec (ws := wsX0_moveTo) B.pre
  have hown : s.vm.findClass RX0 = some m.cls := findClass_of_methodNamed B.named
  have hlocks := B.notSynchronized
  subst hsz
  have hD := hD0.self (sz := s.heap.size)
  generalize hAe : va_A [(g, .inr (0, [.ref gp, .ref gt, .ref ge, .ref gd, .ref gs, .int (nI cnt), .ref gn, .ref gl])), (gp, .inr (4, [.ref gpa, .int (nI om)])), (gpa, .inl (cI, 150, .inl op)), (gt, .inr (4, [.ref gta, .int (nI on)])), (gta, .inl (cI, 300, .inl ot)), (ge, .inl (cI, 301, .inl fe)), (gd, .inl (cI, 301, .inl fd)), (gs, .inl (cI, 301, .inl fs)), (gn, .inl (cI, 151, .inl fn)), (gl, .inl (cI, 151, .inl fl))] s.heap.size = A at hD ⊢
  have hA : ∀ q : Nat, s.heap.size ≤ q → A q := fun q h => by rw [← hAe]; exact Or.inr h
  have hl := lv_entry ([.ref g, .int (nI (j + 1)), .int mode]) (n := 10) (Nat.le_of_ble_eq_true rfl)
  rw [lg_entry_eq]
  generalize (lg_sl ([.ref g, .int (nI (j + 1)), .int mode]) ++ List.replicate (10 - (lg_sl ([.ref g, .int (nI (j + 1)), .int mode])).length) Slot.unset).toArray = ls at hl ⊢
  have hl : lv_has ls 10 [(0, .ref g), (1, .int (nI (j + 1))), (2, .int mode)] := hl
  refine hv_start (A := A) (ws := [(g, .inr (0, [.ref gp, .ref gt, .ref ge, .ref gd, .ref gs, .int (nI cnt), .ref gn, .ref gl])), (gp, .inr (4, [.ref gpa, .int (nI om)])), (gpa, .inl (cI, 150, .inl op)), (gt, .inr (4, [.ref gta, .int (nI on)])), (gta, .inl (cI, 300, .inl ot)), (ge, .inl (cI, 301, .inl fe)), (gd, .inl (cI, 301, .inl fd)), (gs, .inl (cI, 301, .inl fs)), (gn, .inl (cI, 151, .inl fn)), (gl, .inl (cI, 151, .inl fl))]) hP (fun H locs hP hS => ?_)
  have w_0 := hts (.fieldLink RX0 20 "TextAligner$Findings" "text" "LTextAligner$SignRow;") (by decide +kernel)
  have i_X0 : ∀ w ∈ wsX00, w ∈ wsX0_moveTo := by decide +kernel
  have w_2 := hts (.fieldLink RX0 37 "TextAligner$Findings" "nearest" "[I") (by decide +kernel)
  have w_3 := hts (.fieldLink RX0 40 "TextAligner$Findings" "lastStart" "[I") (by decide +kernel)
  have w_4 := hts (.fieldLink RX0 14 "TextAligner$Findings" "pattern" "LTextAligner$SignRow;") (by decide +kernel)
  refine lv_aload_n hx hb dX0_moveTo_0 rfl (lv_at hl 0 rfl) ?_
  refine va_get (D := D) (ci := 0) (v := .ref gt) (C := RX0) (T := TX0) (N := 8) hx hb hts i_X0 hown hK hP 0 rfl rfl 1 (by decide) w_0 (fun _ h9 => h9) rfl dX0_moveTo_1 ?_
  refine lv_iload_n hx hb dX0_moveTo_4 rfl (lv_at hl 1 rfl) ?_
  refine lv_iconst (v := 1) hx hb dX0_moveTo_5 (by decide) ?_
  refine lv_isub hx hb dX0_moveTo_6 ?_
  refine lv_cv (y := nI j) (nI_pred j) ?_
  have fr := fr_x (wc := [(gt, .inr (4, [.ref gta, .int (nI on)])), (gta, .inl (cI, 300, .inl ot))]) (wr := [(g, .inr (0, [.ref gp, .ref gt, .ref ge, .ref gd, .ref gs, .int (nI cnt), .ref gn, .ref gl])), (gp, .inr (4, [.ref gpa, .int (nI om)])), (gpa, .inl (cI, 150, .inl op)), (ge, .inl (cI, 301, .inl fe)), (gd, .inl (cI, 301, .inl fd)), (gs, .inl (cI, 301, .inl fs)), (gn, .inl (cI, 151, .inl fn)), (gl, .inl (cI, 151, .inl fl))]) hP hD hS hA [3, 4] [0, 1, 2, 5, 6, 7, 8, 9] rfl rfl (by decide) (by decide) (by decide)
  refine cv_i (J := fun _ => [(g, .inr (0, [.ref gp, .ref gt, .ref ge, .ref gd, .ref gs, .int (nI cnt), .ref gn, .ref gl])), (gp, .inr (4, [.ref gpa, .int (nI om)])), (gpa, .inl (cI, 150, .inl op)), (gt, .inr (4, [.ref gta, .int (nI on)])), (gta, .inl (cI, 300, .inl ot)), (ge, .inl (cI, 301, .inl fe)), (gd, .inl (cI, 301, .inl fd)), (gs, .inl (cI, 301, .inl fs)), (gn, .inl (cI, 151, .inl fn)), (gl, .inl (cI, 151, .inl fl))]) (As := [.int (nI j)]) (rest := []) (q0 := 0) (ci := 4) ⟨hx, hb, hml, hown, hts⟩ (c_X4_signBehind l D cI cJ cL H.size gt gta 300 on ot j (by omega) (by omega)) (cwV 1 hts gX0_moveTo_X4_signBehind rfl rfl rfl (by decide +kernel) ⟨Nat.le_of_ble_eq_true rfl, Nat.le_of_ble_eq_true rfl⟩) hK fr.1 fr.2.1 fr.2.2.1 (fun H1 u hk h1 h2 => ⟨(fr.2.2.2 _ H1 hk h1 h2).1.sub [0, 1, 2, 8, 9, 3, 4, 5, 6, 7] rfl, (fr.2.2.2 _ H1 hk h1 h2).2.sub [0, 1, 2, 8, 9, 3, 4, 5, 6, 7] (by decide) rfl⟩) hS rfl rfl rfl rfl hl.1 rfl (Nat.le_of_ble_eq_true rfl) dX0_moveTo_7 ⟨Nat.zero_le _, Nat.zero_le _⟩ (fun r_2 u_1 H locs hw hP hD hS => ?_)
  subst hw
  refine lv_istore_n (lv' := [(3, .int (ot j)), (0, .ref g), (1, .int (nI (j + 1))), (2, .int mode)]) hx hb dX0_moveTo_10 rfl hl (by decide) rfl (fun ls hl => ?_)
  refine lv_aload_n hx hb dX0_moveTo_11 rfl (lv_at hl 1 rfl) ?_
  refine va_get (D := D) (ci := 0) (v := .ref gn) (C := RX0) (T := TX0) (N := 8) hx hb hts i_X0 hown hK hP 0 rfl rfl 6 (by decide) w_2 (fun _ h9 => h9) rfl dX0_moveTo_12 ?_
  refine lv_iconst (v := 0) hx hb dX0_moveTo_15 (by decide) ?_
  refine W.eq (g2 := F0 m 16 ls (.int (nI 0) :: .ref gn :: [])) rfl ?_
  refine va_ialdN hx hb hK hP 8 0 rfl rfl (k := 0) (by omega) (by decide) dX0_moveTo_16 ?_
  refine lv_istore (lv' := [(4, .int (fn 0)), (3, .int (ot j)), (0, .ref g), (1, .int (nI (j + 1))), (2, .int mode)]) hx hb dX0_moveTo_17 hl (by decide) rfl (fun ls hl => ?_)
  refine lv_aload_n hx hb dX0_moveTo_19 rfl (lv_at hl 2 rfl) ?_
  refine va_get (D := D) (ci := 0) (v := .ref gl) (C := RX0) (T := TX0) (N := 8) hx hb hts i_X0 hown hK hP 0 rfl rfl 7 (by decide) w_3 (fun _ h9 => h9) rfl dX0_moveTo_20 ?_
  refine lv_iconst (v := 0) hx hb dX0_moveTo_23 (by decide) ?_
  refine W.eq (g2 := F0 m 24 ls (.int (nI 0) :: .ref gl :: [])) rfl ?_
  refine va_ialdN hx hb hK hP 9 0 rfl rfl (k := 0) (by omega) (by decide) dX0_moveTo_24 ?_
  refine lv_istore (lv' := [(5, .int (fl 0)), (4, .int (fn 0)), (3, .int (ot j)), (0, .ref g), (1, .int (nI (j + 1))), (2, .int mode)]) hx hb dX0_moveTo_25 hl (by decide) rfl (fun ls hl => ?_)
  refine lv_aload_n hx hb dX0_moveTo_27 rfl (lv_at hl 3 rfl) ?_
  refine va_get (D := D) (ci := 0) (v := .ref gn) (C := RX0) (T := TX0) (N := 8) hx hb hts i_X0 hown hK hP 0 rfl rfl 6 (by decide) w_2 (fun _ h9 => h9) rfl dX0_moveTo_28 ?_
  refine lv_iconst (v := 0) hx hb dX0_moveTo_31 (by decide) ?_
  refine lv_iload_n hx hb dX0_moveTo_32 rfl (lv_at hl 5 rfl) ?_
  refine lv_iconst (v := 2) hx hb dX0_moveTo_33 (by decide) ?_
  refine hv_join 42 (fun H1 locs1 ls1 st1 => ∃ v1 : Int32, (v1 = if mode = 2 then 0 else nI (j + 1)) ∧ Value.int v1 :: [.int 0, .ref gn] = st1 ∧ H = H1 ∧ locs = locs1 ∧ ls = ls1) ?_ ?_
  · rintro H1 locs1 ls1 st1 ⟨v1, ev1, rfl, rfl, rfl, rfl⟩
    refine W.eq (g2 := F0 m 42 ls (.int v1 :: .int (nI 0) :: .ref gn :: [])) rfl ?_
    refine va_iastN hx hb hK hP hD hS 8 0 rfl rfl (k := 0) (x := v1) (by omega) (by decide) dX0_moveTo_42 (fun H locs hP hD hS => ?_)
    have hP : va_P D vwCl [(g, .inr (0, [.ref gp, .ref gt, .ref ge, .ref gd, .ref gs, .int (nI cnt), .ref gn, .ref gl])), (gp, .inr (4, [.ref gpa, .int (nI om)])), (gpa, .inl (cI, 150, .inl op)), (gt, .inr (4, [.ref gta, .int (nI on)])), (gta, .inl (cI, 300, .inl ot)), (ge, .inl (cI, 301, .inl fe)), (gd, .inl (cI, 301, .inl fd)), (gs, .inl (cI, 301, .inl fs)), (gn, .inl (cI, 151, .inl (upd fn 0 v1))), (gl, .inl (cI, 151, .inl fl))] H := hP
    have hD : va_D A [(g, .inr (0, [.ref gp, .ref gt, .ref ge, .ref gd, .ref gs, .int (nI cnt), .ref gn, .ref gl])), (gp, .inr (4, [.ref gpa, .int (nI om)])), (gpa, .inl (cI, 150, .inl op)), (gt, .inr (4, [.ref gta, .int (nI on)])), (gta, .inl (cI, 300, .inl ot)), (ge, .inl (cI, 301, .inl fe)), (gd, .inl (cI, 301, .inl fd)), (gs, .inl (cI, 301, .inl fs)), (gn, .inl (cI, 151, .inl (upd fn 0 v1))), (gl, .inl (cI, 151, .inl fl))] := hD
    refine lv_aload_n hx hb dX0_moveTo_43 rfl (lv_at hl 3 rfl) ?_
    refine va_get (D := D) (ci := 0) (v := .ref gl) (C := RX0) (T := TX0) (N := 8) hx hb hts i_X0 hown hK hP 0 rfl rfl 7 (by decide) w_3 (fun _ h9 => h9) rfl dX0_moveTo_44 ?_
    refine lv_iconst (v := 0) hx hb dX0_moveTo_47 (by decide) ?_
    refine lv_iload_n hx hb dX0_moveTo_48 rfl (lv_at hl 5 rfl) ?_
    refine lv_iconst (v := 2) hx hb dX0_moveTo_49 (by decide) ?_
    refine hv_join 58 (fun H1 locs1 ls1 st1 => ∃ v2 : Int32, (v2 = if mode = 2 then nI (j + 1) else 0) ∧ Value.int v2 :: [.int 0, .ref gl] = st1 ∧ H = H1 ∧ locs = locs1 ∧ ls = ls1) ?_ ?_
    · rintro H1 locs1 ls1 st1 ⟨v2, ev2, rfl, rfl, rfl, rfl⟩
      refine W.eq (g2 := F0 m 58 ls (.int v2 :: .int (nI 0) :: .ref gl :: [])) rfl ?_
      refine va_iastN hx hb hK hP hD hS 9 0 rfl rfl (k := 0) (x := v2) (by omega) (by decide) dX0_moveTo_58 (fun H locs hP hD hS => ?_)
      have hP : va_P D vwCl [(g, .inr (0, [.ref gp, .ref gt, .ref ge, .ref gd, .ref gs, .int (nI cnt), .ref gn, .ref gl])), (gp, .inr (4, [.ref gpa, .int (nI om)])), (gpa, .inl (cI, 150, .inl op)), (gt, .inr (4, [.ref gta, .int (nI on)])), (gta, .inl (cI, 300, .inl ot)), (ge, .inl (cI, 301, .inl fe)), (gd, .inl (cI, 301, .inl fd)), (gs, .inl (cI, 301, .inl fs)), (gn, .inl (cI, 151, .inl (upd fn 0 v1))), (gl, .inl (cI, 151, .inl (upd fl 0 v2)))] H := hP
      have hD : va_D A [(g, .inr (0, [.ref gp, .ref gt, .ref ge, .ref gd, .ref gs, .int (nI cnt), .ref gn, .ref gl])), (gp, .inr (4, [.ref gpa, .int (nI om)])), (gpa, .inl (cI, 150, .inl op)), (gt, .inr (4, [.ref gta, .int (nI on)])), (gta, .inl (cI, 300, .inl ot)), (ge, .inl (cI, 301, .inl fe)), (gd, .inl (cI, 301, .inl fd)), (gs, .inl (cI, 301, .inl fs)), (gn, .inl (cI, 151, .inl (upd fn 0 v1))), (gl, .inl (cI, 151, .inl (upd fl 0 v2)))] := hD
      refine lv_iconst (v := 1) hx hb dX0_moveTo_59 (by decide) ?_
      refine lv_istore (lv' := [(6, .int 1), (5, .int (fl 0)), (4, .int (fn 0)), (3, .int (ot j)), (0, .ref g), (1, .int (nI (j + 1))), (2, .int mode)]) hx hb dX0_moveTo_60 hl (by decide) rfl (fun ls hl => ?_)
      have e0 := px_mv0 (op := op) (sg := ot j) (fst := px_fst mode (j + 1)) hpv (px_fst_e ev1 ev2)
      refine hv_loop (fun zz H locs ls => ∃ (i : Nat) (a1 : Nat → Int32) (a2 : Nat → Int32) (x4 : Int32) (x5 : Int32), i ≤ om ∧ (x4, x5) = prev i ∧ (∀ k, k ≤ i → (a1 k, a2 k) = px_next op (ot j) (px_fst mode (j + 1)) prev k) ∧ (∀ k, i < k → k ≤ om → (a1 k, a2 k) = prev k) ∧ zz = om - i ∧ va_P D vwCl [(g, .inr (0, [.ref gp, .ref gt, .ref ge, .ref gd, .ref gs, .int (nI cnt), .ref gn, .ref gl])), (gp, .inr (4, [.ref gpa, .int (nI om)])), (gpa, .inl (cI, 150, .inl op)), (gt, .inr (4, [.ref gta, .int (nI on)])), (gta, .inl (cI, 300, .inl ot)), (ge, .inl (cI, 301, .inl fe)), (gd, .inl (cI, 301, .inl fd)), (gs, .inl (cI, 301, .inl fs)), (gn, .inl (cI, 151, .inl a1)), (gl, .inl (cI, 151, .inl a2))] H ∧ va_D A [(g, .inr (0, [.ref gp, .ref gt, .ref ge, .ref gd, .ref gs, .int (nI cnt), .ref gn, .ref gl])), (gp, .inr (4, [.ref gpa, .int (nI om)])), (gpa, .inl (cI, 150, .inl op)), (gt, .inr (4, [.ref gta, .int (nI on)])), (gta, .inl (cI, 300, .inl ot)), (ge, .inl (cI, 301, .inl fe)), (gd, .inl (cI, 301, .inl fd)), (gs, .inl (cI, 301, .inl fs)), (gn, .inl (cI, 151, .inl a1)), (gl, .inl (cI, 151, .inl a2))] ∧ va_S A s.heap H locs ∧ lv_has ls 10 [(0, .ref g), (1, .int (nI (j + 1))), (2, .int mode), (3, .int (ot j)), (4, .int x4), (5, .int x5), (6, .int (nI (i + 1)))]) ?_ _ ⟨0, upd fn 0 v1, upd fl 0 v2, fn 0, fl 0, by omega, hpv 0 (Nat.zero_le _), e0.1, e0.2, rfl, hP, hD, hS, lv_sub hl [4, 5, 6, 3, 2, 1, 0] rfl⟩
      intro zz_62 H locs ls hI ih_62
      obtain ⟨i, a1, a2, x4, x5, hi, h45, h1, h2, hzz_62, hP, hD, hS, hl⟩ := hI
      refine lv_iload hx hb dX0_moveTo_62 (lv_at hl 6 rfl) ?_
      refine lv_aload_n hx hb dX0_moveTo_64 rfl (lv_at hl 0 rfl) ?_
      refine va_get (D := D) (ci := 0) (v := .ref gp) (C := RX0) (T := TX0) (N := 8) hx hb hts i_X0 hown hK hP 0 rfl rfl 0 (by decide) w_4 (fun _ h9 => h9) rfl dX0_moveTo_65 ?_
      have fr := fr_x (wc := [(gp, .inr (4, [.ref gpa, .int (nI om)])), (gpa, .inl (cI, 150, .inl op))]) (wr := [(g, .inr (0, [.ref gp, .ref gt, .ref ge, .ref gd, .ref gs, .int (nI cnt), .ref gn, .ref gl])), (gt, .inr (4, [.ref gta, .int (nI on)])), (gta, .inl (cI, 300, .inl ot)), (ge, .inl (cI, 301, .inl fe)), (gd, .inl (cI, 301, .inl fd)), (gs, .inl (cI, 301, .inl fs)), (gn, .inl (cI, 151, .inl a1)), (gl, .inl (cI, 151, .inl a2))]) hP hD hS hA [1, 2] [0, 3, 4, 5, 6, 7, 8, 9] rfl rfl (by decide) (by decide) (by decide)
      refine cv_i (J := fun _ => [(g, .inr (0, [.ref gp, .ref gt, .ref ge, .ref gd, .ref gs, .int (nI cnt), .ref gn, .ref gl])), (gp, .inr (4, [.ref gpa, .int (nI om)])), (gpa, .inl (cI, 150, .inl op)), (gt, .inr (4, [.ref gta, .int (nI on)])), (gta, .inl (cI, 300, .inl ot)), (ge, .inl (cI, 301, .inl fe)), (gd, .inl (cI, 301, .inl fd)), (gs, .inl (cI, 301, .inl fs)), (gn, .inl (cI, 151, .inl a1)), (gl, .inl (cI, 151, .inl a2))]) (As := []) (rest := [.int (nI (i + 1))]) (q0 := 0) (ci := 4) ⟨hx, hb, hml, hown, hts⟩ (c_X4_size l D cI cJ cL H.size gp gpa 150 om op ) (cwV 0 hts gX0_moveTo_X4_size rfl rfl rfl (by decide +kernel) ⟨Nat.le_of_ble_eq_true rfl, Nat.le_of_ble_eq_true rfl⟩) hK fr.1 fr.2.1 fr.2.2.1 (fun H1 u hk h1 h2 => ⟨(fr.2.2.2 _ H1 hk h1 h2).1.sub [0, 8, 9, 1, 2, 3, 4, 5, 6, 7] rfl, (fr.2.2.2 _ H1 hk h1 h2).2.sub [0, 8, 9, 1, 2, 3, 4, 5, 6, 7] (by decide) rfl⟩) hS rfl rfl rfl rfl hl.1 rfl (Nat.le_of_ble_eq_true rfl) dX0_moveTo_68 ⟨Nat.zero_le _, Nat.zero_le _⟩ (fun r_4 u_3 H locs hw hP hD hS => ?_)
      subst hw
      refine lv_icmp_gt (tgt := 187) hx hb dX0_moveTo_71 (by decide) (fun c_71 => ?_) (fun c_71 => ?_)
      · have k_71 : om < i + 1 := (nI_ltI (a := om) (b := i + 1) (by omega) (by omega)).mp c_71
        exact fin_v (a1, a2) hx hb hr hlocks dX0_moveTo_187 hK hS hP hD (fun k q => h1 k (by omega))
      · have k_71 : ¬ (om < i + 1) := fun q => c_71 ((nI_ltI (a := om) (b := i + 1) (by omega) (by omega)).mpr q)
        refine lv_aload_n hx hb dX0_moveTo_74 rfl (lv_at hl 0 rfl) ?_
        refine va_get (D := D) (ci := 0) (v := .ref gn) (C := RX0) (T := TX0) (N := 8) hx hb hts i_X0 hown hK hP 0 rfl rfl 6 (by decide) w_2 (fun _ h9 => h9) rfl dX0_moveTo_75 ?_
        refine lv_iload hx hb dX0_moveTo_78 (lv_at hl 6 rfl) ?_
        refine va_ialdN hx hb hK hP 8 0 rfl rfl (k := i + 1) (by omega) (by decide) dX0_moveTo_80 ?_
        refine lv_istore (lv' := [(7, .int (a1 (i + 1))), (0, .ref g), (1, .int (nI (j + 1))), (2, .int mode), (3, .int (ot j)), (4, .int x4), (5, .int x5), (6, .int (nI (i + 1)))]) hx hb dX0_moveTo_81 hl (by decide) rfl (fun ls hl => ?_)
        refine lv_aload_n hx hb dX0_moveTo_83 rfl (lv_at hl 1 rfl) ?_
        refine va_get (D := D) (ci := 0) (v := .ref gl) (C := RX0) (T := TX0) (N := 8) hx hb hts i_X0 hown hK hP 0 rfl rfl 7 (by decide) w_3 (fun _ h9 => h9) rfl dX0_moveTo_84 ?_
        refine lv_iload hx hb dX0_moveTo_87 (lv_at hl 7 rfl) ?_
        refine va_ialdN hx hb hK hP 9 0 rfl rfl (k := i + 1) (by omega) (by decide) dX0_moveTo_89 ?_
        refine lv_istore (lv' := [(8, .int (a2 (i + 1))), (7, .int (a1 (i + 1))), (0, .ref g), (1, .int (nI (j + 1))), (2, .int mode), (3, .int (ot j)), (4, .int x4), (5, .int x5), (6, .int (nI (i + 1)))]) hx hb dX0_moveTo_90 hl (by decide) rfl (fun ls hl => ?_)
        refine lv_aload_n hx hb dX0_moveTo_92 rfl (lv_at hl 2 rfl) ?_
        refine va_get (D := D) (ci := 0) (v := .ref gp) (C := RX0) (T := TX0) (N := 8) hx hb hts i_X0 hown hK hP 0 rfl rfl 0 (by decide) w_4 (fun _ h9 => h9) rfl dX0_moveTo_93 ?_
        refine lv_iload hx hb dX0_moveTo_96 (lv_at hl 8 rfl) ?_
        refine lv_iconst (v := 1) hx hb dX0_moveTo_98 (by decide) ?_
        refine lv_isub hx hb dX0_moveTo_99 ?_
        refine lv_cv (y := nI i) (nI_pred i) ?_
        have fr := fr_x (wc := [(gp, .inr (4, [.ref gpa, .int (nI om)])), (gpa, .inl (cI, 150, .inl op))]) (wr := [(g, .inr (0, [.ref gp, .ref gt, .ref ge, .ref gd, .ref gs, .int (nI cnt), .ref gn, .ref gl])), (gt, .inr (4, [.ref gta, .int (nI on)])), (gta, .inl (cI, 300, .inl ot)), (ge, .inl (cI, 301, .inl fe)), (gd, .inl (cI, 301, .inl fd)), (gs, .inl (cI, 301, .inl fs)), (gn, .inl (cI, 151, .inl a1)), (gl, .inl (cI, 151, .inl a2))]) hP hD hS hA [1, 2] [0, 3, 4, 5, 6, 7, 8, 9] rfl rfl (by decide) (by decide) (by decide)
        refine cv_i (J := fun _ => [(g, .inr (0, [.ref gp, .ref gt, .ref ge, .ref gd, .ref gs, .int (nI cnt), .ref gn, .ref gl])), (gp, .inr (4, [.ref gpa, .int (nI om)])), (gpa, .inl (cI, 150, .inl op)), (gt, .inr (4, [.ref gta, .int (nI on)])), (gta, .inl (cI, 300, .inl ot)), (ge, .inl (cI, 301, .inl fe)), (gd, .inl (cI, 301, .inl fd)), (gs, .inl (cI, 301, .inl fs)), (gn, .inl (cI, 151, .inl a1)), (gl, .inl (cI, 151, .inl a2))]) (As := [.int (nI i)]) (rest := []) (q0 := 0) (ci := 4) ⟨hx, hb, hml, hown, hts⟩ (c_X4_signBehind l D cI cJ cL H.size gp gpa 150 om op i (by omega) (by omega)) (cwV 1 hts gX0_moveTo_X4_signBehind rfl rfl rfl (by decide +kernel) ⟨Nat.le_of_ble_eq_true rfl, Nat.le_of_ble_eq_true rfl⟩) hK fr.1 fr.2.1 fr.2.2.1 (fun H1 u hk h1 h2 => ⟨(fr.2.2.2 _ H1 hk h1 h2).1.sub [0, 8, 9, 1, 2, 3, 4, 5, 6, 7] rfl, (fr.2.2.2 _ H1 hk h1 h2).2.sub [0, 8, 9, 1, 2, 3, 4, 5, 6, 7] (by decide) rfl⟩) hS rfl rfl rfl rfl hl.1 rfl (Nat.le_of_ble_eq_true rfl) dX0_moveTo_100 ⟨Nat.zero_le _, Nat.zero_le _⟩ (fun r_6 u_5 H locs hw hP hD hS => ?_)
        subst hw
        refine lv_iload_n hx hb dX0_moveTo_103 rfl (lv_at hl 5 rfl) ?_
        refine hv_join 112 (fun H1 locs1 ls1 st1 => ∃ ch : Int32, (ch = if op i = ot j then 0 else 1) ∧ Value.int ch :: [] = st1 ∧ H = H1 ∧ locs = locs1 ∧ ls = ls1) ?_ ?_
        · rintro H1 locs1 ls1 st1 ⟨ch, ech, rfl, rfl, rfl, rfl⟩
          refine lv_istore (lv' := [(9, .int ch), (8, .int (a2 (i + 1))), (7, .int (a1 (i + 1))), (0, .ref g), (1, .int (nI (j + 1))), (2, .int mode), (3, .int (ot j)), (4, .int x4), (5, .int x5), (6, .int (nI (i + 1)))]) hx hb dX0_moveTo_112 hl (by decide) rfl (fun ls hl => ?_)
          refine lv_aload_n hx hb dX0_moveTo_114 rfl (lv_at hl 3 rfl) ?_
          refine va_get (D := D) (ci := 0) (v := .ref gn) (C := RX0) (T := TX0) (N := 8) hx hb hts i_X0 hown hK hP 0 rfl rfl 6 (by decide) w_2 (fun _ h9 => h9) rfl dX0_moveTo_115 ?_
          refine lv_iload hx hb dX0_moveTo_118 (lv_at hl 9 rfl) ?_
          refine lv_iload hx hb dX0_moveTo_120 (lv_at hl 7 rfl) ?_
          refine lv_iload hx hb dX0_moveTo_122 (lv_at hl 0 rfl) ?_
          refine lv_iadd hx hb dX0_moveTo_124 ?_
          refine va_iastN hx hb hK hP hD hS 8 0 rfl rfl (k := i + 1) (x := x4 + ch) (by omega) (by decide) dX0_moveTo_125 (fun H locs hP hD hS => ?_)
          have hP : va_P D vwCl [(g, .inr (0, [.ref gp, .ref gt, .ref ge, .ref gd, .ref gs, .int (nI cnt), .ref gn, .ref gl])), (gp, .inr (4, [.ref gpa, .int (nI om)])), (gpa, .inl (cI, 150, .inl op)), (gt, .inr (4, [.ref gta, .int (nI on)])), (gta, .inl (cI, 300, .inl ot)), (ge, .inl (cI, 301, .inl fe)), (gd, .inl (cI, 301, .inl fd)), (gs, .inl (cI, 301, .inl fs)), (gn, .inl (cI, 151, .inl (upd a1 (i + 1) (x4 + ch)))), (gl, .inl (cI, 151, .inl a2))] H := hP
          have hD : va_D A [(g, .inr (0, [.ref gp, .ref gt, .ref ge, .ref gd, .ref gs, .int (nI cnt), .ref gn, .ref gl])), (gp, .inr (4, [.ref gpa, .int (nI om)])), (gpa, .inl (cI, 150, .inl op)), (gt, .inr (4, [.ref gta, .int (nI on)])), (gta, .inl (cI, 300, .inl ot)), (ge, .inl (cI, 301, .inl fe)), (gd, .inl (cI, 301, .inl fd)), (gs, .inl (cI, 301, .inl fs)), (gn, .inl (cI, 151, .inl (upd a1 (i + 1) (x4 + ch)))), (gl, .inl (cI, 151, .inl a2))] := hD
          refine lv_aload_n hx hb dX0_moveTo_126 rfl (lv_at hl 3 rfl) ?_
          refine va_get (D := D) (ci := 0) (v := .ref gl) (C := RX0) (T := TX0) (N := 8) hx hb hts i_X0 hown hK hP 0 rfl rfl 7 (by decide) w_3 (fun _ h9 => h9) rfl dX0_moveTo_127 ?_
          refine lv_iload hx hb dX0_moveTo_130 (lv_at hl 9 rfl) ?_
          refine lv_iload hx hb dX0_moveTo_132 (lv_at hl 8 rfl) ?_
          refine va_iastN hx hb hK hP hD hS 9 0 rfl rfl (k := i + 1) (x := x5) (by omega) (by decide) dX0_moveTo_134 (fun H locs hP hD hS => ?_)
          have hP : va_P D vwCl [(g, .inr (0, [.ref gp, .ref gt, .ref ge, .ref gd, .ref gs, .int (nI cnt), .ref gn, .ref gl])), (gp, .inr (4, [.ref gpa, .int (nI om)])), (gpa, .inl (cI, 150, .inl op)), (gt, .inr (4, [.ref gta, .int (nI on)])), (gta, .inl (cI, 300, .inl ot)), (ge, .inl (cI, 301, .inl fe)), (gd, .inl (cI, 301, .inl fd)), (gs, .inl (cI, 301, .inl fs)), (gn, .inl (cI, 151, .inl (upd a1 (i + 1) (x4 + ch)))), (gl, .inl (cI, 151, .inl (upd a2 (i + 1) x5)))] H := hP
          have hD : va_D A [(g, .inr (0, [.ref gp, .ref gt, .ref ge, .ref gd, .ref gs, .int (nI cnt), .ref gn, .ref gl])), (gp, .inr (4, [.ref gpa, .int (nI om)])), (gpa, .inl (cI, 150, .inl op)), (gt, .inr (4, [.ref gta, .int (nI on)])), (gta, .inl (cI, 300, .inl ot)), (ge, .inl (cI, 301, .inl fe)), (gd, .inl (cI, 301, .inl fd)), (gs, .inl (cI, 301, .inl fs)), (gn, .inl (cI, 151, .inl (upd a1 (i + 1) (x4 + ch)))), (gl, .inl (cI, 151, .inl (upd a2 (i + 1) x5)))] := hD
          refine lv_aload_n hx hb dX0_moveTo_135 rfl (lv_at hl 3 rfl) ?_
          refine lv_iload hx hb dX0_moveTo_136 (lv_at hl 9 rfl) ?_
          refine lv_aload_n hx hb dX0_moveTo_138 rfl (lv_at hl 3 rfl) ?_
          refine va_get (D := D) (ci := 0) (v := .ref gn) (C := RX0) (T := TX0) (N := 8) hx hb hts i_X0 hown hK hP 0 rfl rfl 6 (by decide) w_2 (fun _ h9 => h9) rfl dX0_moveTo_139 ?_
          refine lv_iload hx hb dX0_moveTo_142 (lv_at hl 9 rfl) ?_
          refine lv_iconst (v := 1) hx hb dX0_moveTo_144 (by decide) ?_
          refine lv_isub hx hb dX0_moveTo_145 ?_
          refine lv_cv (y := nI i) (nI_pred i) ?_
          refine va_ialdN hx hb hK hP 8 0 rfl rfl (k := i) (by omega) (by decide) dX0_moveTo_146 ?_
          refine lv_iconst (v := 1) hx hb dX0_moveTo_147 (by decide) ?_
          refine lv_iadd hx hb dX0_moveTo_148 ?_
          refine lv_aload_n hx hb dX0_moveTo_149 rfl (lv_at hl 3 rfl) ?_
          refine va_get (D := D) (ci := 0) (v := .ref gl) (C := RX0) (T := TX0) (N := 8) hx hb hts i_X0 hown hK hP 0 rfl rfl 7 (by decide) w_3 (fun _ h9 => h9) rfl dX0_moveTo_150 ?_
          refine lv_iload hx hb dX0_moveTo_153 (lv_at hl 9 rfl) ?_
          refine lv_iconst (v := 1) hx hb dX0_moveTo_155 (by decide) ?_
          refine lv_isub hx hb dX0_moveTo_156 ?_
          refine lv_cv (y := nI i) (nI_pred i) ?_
          refine va_ialdN hx hb hK hP 9 0 rfl rfl (k := i) (by omega) (by decide) dX0_moveTo_157 ?_
          have fr := fr_x (wc := [(g, .inr (0, [.ref gp, .ref gt, .ref ge, .ref gd, .ref gs, .int (nI cnt), .ref gn, .ref gl])), (gn, .inl (cI, 151, .inl (upd a1 (i + 1) (x4 + ch)))), (gl, .inl (cI, 151, .inl (upd a2 (i + 1) x5)))]) (wr := [(gp, .inr (4, [.ref gpa, .int (nI om)])), (gpa, .inl (cI, 150, .inl op)), (gt, .inr (4, [.ref gta, .int (nI on)])), (gta, .inl (cI, 300, .inl ot)), (ge, .inl (cI, 301, .inl fe)), (gd, .inl (cI, 301, .inl fd)), (gs, .inl (cI, 301, .inl fs))]) hP hD hS hA [0, 8, 9] [1, 2, 3, 4, 5, 6, 7] rfl rfl (by decide) (by decide) (by decide)
          refine cv_v (J := fun _ => [(g, .inr (0, [.ref gp, .ref gt, .ref ge, .ref gd, .ref gs, .int (nI cnt), .ref gn, .ref gl])), (gp, .inr (4, [.ref gpa, .int (nI om)])), (gpa, .inl (cI, 150, .inl op)), (gt, .inr (4, [.ref gta, .int (nI on)])), (gta, .inl (cI, 300, .inl ot)), (ge, .inl (cI, 301, .inl fe)), (gd, .inl (cI, 301, .inl fd)), (gs, .inl (cI, 301, .inl fs)), (gn, .inl (cI, 151, .inl (upd (upd a1 (i + 1) (x4 + ch)) (i + 1) (px_tb ((upd a1 (i + 1) (x4 + ch)) (i + 1), (upd a2 (i + 1) x5) (i + 1)) (((upd a1 (i + 1) (x4 + ch)) i) + 1) ((upd a2 (i + 1) x5) i)).1))), (gl, .inl (cI, 151, .inl (upd (upd a2 (i + 1) x5) (i + 1) (px_tb ((upd a1 (i + 1) (x4 + ch)) (i + 1), (upd a2 (i + 1) x5) (i + 1)) (((upd a1 (i + 1) (x4 + ch)) i) + 1) ((upd a2 (i + 1) x5) i)).2)))]) (As := [.int (nI (i + 1)), .int (((upd a1 (i + 1) (x4 + ch)) i) + 1), .int ((upd a2 (i + 1) x5) i)]) (rest := []) (q0 := 0) (ci := 0) ⟨hx, hb, hml, hown, hts⟩ (c_X0_takeIfBetter l D cI cJ cL H.size g gp gt ge gd gs gn gl cnt (upd a1 (i + 1) (x4 + ch)) (upd a2 (i + 1) x5) (i + 1) (((upd a1 (i + 1) (x4 + ch)) i) + 1) ((upd a2 (i + 1) x5) i) (by omega)) (cwV 3 hts gX0_moveTo_X0_takeIfBetter rfl rfl rfl (by decide +kernel) ⟨Nat.le_of_ble_eq_true rfl, Nat.le_of_ble_eq_true rfl⟩) hK fr.1 fr.2.1 fr.2.2.1 (fun H1 u hk h1 h2 => ⟨(fr.2.2.2 _ H1 hk h1 h2).1.sub [7, 0, 1, 2, 3, 4, 5, 6, 8, 9] rfl, (fr.2.2.2 _ H1 hk h1 h2).2.sub [7, 0, 1, 2, 3, 4, 5, 6, 8, 9] (by decide) rfl⟩) hS rfl rfl rfl rfl hl.1 rfl (Nat.le_of_ble_eq_true rfl) dX0_moveTo_158 ⟨Nat.zero_le _, Nat.zero_le _⟩ (fun u_7 H locs hw hP hD hS => ?_)
          refine lv_aload_n hx hb dX0_moveTo_161 rfl (lv_at hl 3 rfl) ?_
          refine lv_iload hx hb dX0_moveTo_162 (lv_at hl 9 rfl) ?_
          refine lv_iload hx hb dX0_moveTo_164 (lv_at hl 2 rfl) ?_
          refine lv_iconst (v := 1) hx hb dX0_moveTo_166 (by decide) ?_
          refine lv_iadd hx hb dX0_moveTo_167 ?_
          refine lv_iload hx hb dX0_moveTo_168 (lv_at hl 1 rfl) ?_
          have fr := fr_x (wc := [(g, .inr (0, [.ref gp, .ref gt, .ref ge, .ref gd, .ref gs, .int (nI cnt), .ref gn, .ref gl])), (gn, .inl (cI, 151, .inl (upd (upd a1 (i + 1) (x4 + ch)) (i + 1) (px_tb ((upd a1 (i + 1) (x4 + ch)) (i + 1), (upd a2 (i + 1) x5) (i + 1)) (((upd a1 (i + 1) (x4 + ch)) i) + 1) ((upd a2 (i + 1) x5) i)).1))), (gl, .inl (cI, 151, .inl (upd (upd a2 (i + 1) x5) (i + 1) (px_tb ((upd a1 (i + 1) (x4 + ch)) (i + 1), (upd a2 (i + 1) x5) (i + 1)) (((upd a1 (i + 1) (x4 + ch)) i) + 1) ((upd a2 (i + 1) x5) i)).2)))]) (wr := [(gp, .inr (4, [.ref gpa, .int (nI om)])), (gpa, .inl (cI, 150, .inl op)), (gt, .inr (4, [.ref gta, .int (nI on)])), (gta, .inl (cI, 300, .inl ot)), (ge, .inl (cI, 301, .inl fe)), (gd, .inl (cI, 301, .inl fd)), (gs, .inl (cI, 301, .inl fs))]) hP hD hS hA [0, 8, 9] [1, 2, 3, 4, 5, 6, 7] rfl rfl (by decide) (by decide) (by decide)
          refine cv_v (J := fun _ => [(g, .inr (0, [.ref gp, .ref gt, .ref ge, .ref gd, .ref gs, .int (nI cnt), .ref gn, .ref gl])), (gp, .inr (4, [.ref gpa, .int (nI om)])), (gpa, .inl (cI, 150, .inl op)), (gt, .inr (4, [.ref gta, .int (nI on)])), (gta, .inl (cI, 300, .inl ot)), (ge, .inl (cI, 301, .inl fe)), (gd, .inl (cI, 301, .inl fd)), (gs, .inl (cI, 301, .inl fs)), (gn, .inl (cI, 151, .inl (upd (upd (upd a1 (i + 1) (x4 + ch)) (i + 1) (px_tb ((upd a1 (i + 1) (x4 + ch)) (i + 1), (upd a2 (i + 1) x5) (i + 1)) (((upd a1 (i + 1) (x4 + ch)) i) + 1) ((upd a2 (i + 1) x5) i)).1) (i + 1) (px_tb ((upd (upd a1 (i + 1) (x4 + ch)) (i + 1) (px_tb ((upd a1 (i + 1) (x4 + ch)) (i + 1), (upd a2 (i + 1) x5) (i + 1)) (((upd a1 (i + 1) (x4 + ch)) i) + 1) ((upd a2 (i + 1) x5) i)).1) (i + 1), (upd (upd a2 (i + 1) x5) (i + 1) (px_tb ((upd a1 (i + 1) (x4 + ch)) (i + 1), (upd a2 (i + 1) x5) (i + 1)) (((upd a1 (i + 1) (x4 + ch)) i) + 1) ((upd a2 (i + 1) x5) i)).2) (i + 1)) ((a1 (i + 1)) + 1) (a2 (i + 1))).1))), (gl, .inl (cI, 151, .inl (upd (upd (upd a2 (i + 1) x5) (i + 1) (px_tb ((upd a1 (i + 1) (x4 + ch)) (i + 1), (upd a2 (i + 1) x5) (i + 1)) (((upd a1 (i + 1) (x4 + ch)) i) + 1) ((upd a2 (i + 1) x5) i)).2) (i + 1) (px_tb ((upd (upd a1 (i + 1) (x4 + ch)) (i + 1) (px_tb ((upd a1 (i + 1) (x4 + ch)) (i + 1), (upd a2 (i + 1) x5) (i + 1)) (((upd a1 (i + 1) (x4 + ch)) i) + 1) ((upd a2 (i + 1) x5) i)).1) (i + 1), (upd (upd a2 (i + 1) x5) (i + 1) (px_tb ((upd a1 (i + 1) (x4 + ch)) (i + 1), (upd a2 (i + 1) x5) (i + 1)) (((upd a1 (i + 1) (x4 + ch)) i) + 1) ((upd a2 (i + 1) x5) i)).2) (i + 1)) ((a1 (i + 1)) + 1) (a2 (i + 1))).2)))]) (As := [.int (nI (i + 1)), .int ((a1 (i + 1)) + 1), .int (a2 (i + 1))]) (rest := []) (q0 := 0) (ci := 0) ⟨hx, hb, hml, hown, hts⟩ (c_X0_takeIfBetter l D cI cJ cL H.size g gp gt ge gd gs gn gl cnt (upd (upd a1 (i + 1) (x4 + ch)) (i + 1) (px_tb ((upd a1 (i + 1) (x4 + ch)) (i + 1), (upd a2 (i + 1) x5) (i + 1)) (((upd a1 (i + 1) (x4 + ch)) i) + 1) ((upd a2 (i + 1) x5) i)).1) (upd (upd a2 (i + 1) x5) (i + 1) (px_tb ((upd a1 (i + 1) (x4 + ch)) (i + 1), (upd a2 (i + 1) x5) (i + 1)) (((upd a1 (i + 1) (x4 + ch)) i) + 1) ((upd a2 (i + 1) x5) i)).2) (i + 1) ((a1 (i + 1)) + 1) (a2 (i + 1)) (by omega)) (cwV 3 hts gX0_moveTo_X0_takeIfBetter rfl rfl rfl (by decide +kernel) ⟨Nat.le_of_ble_eq_true rfl, Nat.le_of_ble_eq_true rfl⟩) hK fr.1 fr.2.1 fr.2.2.1 (fun H1 u hk h1 h2 => ⟨(fr.2.2.2 _ H1 hk h1 h2).1.sub [7, 0, 1, 2, 3, 4, 5, 6, 8, 9] rfl, (fr.2.2.2 _ H1 hk h1 h2).2.sub [7, 0, 1, 2, 3, 4, 5, 6, 8, 9] (by decide) rfl⟩) hS rfl rfl rfl rfl hl.1 rfl (Nat.le_of_ble_eq_true rfl) dX0_moveTo_170 ⟨Nat.zero_le _, Nat.zero_le _⟩ (fun u_9 H locs hw hP hD hS => ?_)
          refine lv_iload hx hb dX0_moveTo_173 (lv_at hl 2 rfl) ?_
          refine lv_istore (lv' := [(4, .int (a1 (i + 1))), (9, .int ch), (8, .int (a2 (i + 1))), (7, .int (a1 (i + 1))), (0, .ref g), (1, .int (nI (j + 1))), (2, .int mode), (3, .int (ot j)), (5, .int x5), (6, .int (nI (i + 1)))]) hx hb dX0_moveTo_175 hl (by decide) rfl (fun ls hl => ?_)
          refine lv_iload hx hb dX0_moveTo_177 (lv_at hl 2 rfl) ?_
          refine lv_istore (lv' := [(5, .int (a2 (i + 1))), (4, .int (a1 (i + 1))), (9, .int ch), (8, .int (a2 (i + 1))), (7, .int (a1 (i + 1))), (0, .ref g), (1, .int (nI (j + 1))), (2, .int mode), (3, .int (ot j)), (6, .int (nI (i + 1)))]) hx hb dX0_moveTo_179 hl (by decide) rfl (fun ls hl => ?_)
          refine lv_iinc (v := nI (i + 1 + 1)) (lv' := [(6, .int (nI (i + 1 + 1))), (5, .int (a2 (i + 1))), (4, .int (a1 (i + 1))), (9, .int ch), (8, .int (a2 (i + 1))), (7, .int (a1 (i + 1))), (0, .ref g), (1, .int (nI (j + 1))), (2, .int mode), (3, .int (ot j))]) hx hb dX0_moveTo_181 hl (k := 9) rfl (nI_add (i + 1) 1) (by decide) rfl (fun ls hl => ?_)
          refine lv_goto (tgt := 62) hx hb dX0_moveTo_184 (by decide) ?_
          have e9 := px_mv h1 h2 (by omega) h45 ech rfl rfl rfl rfl rfl rfl rfl rfl
          exact ih_62 (om - (i + 1)) _ _ _ (by omega) ⟨i + 1, upd (upd (upd a1 (i + 1) (x4 + ch)) (i + 1) (px_tb ((upd a1 (i + 1) (x4 + ch)) (i + 1), (upd a2 (i + 1) x5) (i + 1)) (((upd a1 (i + 1) (x4 + ch)) i) + 1) ((upd a2 (i + 1) x5) i)).1) (i + 1) (px_tb ((upd (upd a1 (i + 1) (x4 + ch)) (i + 1) (px_tb ((upd a1 (i + 1) (x4 + ch)) (i + 1), (upd a2 (i + 1) x5) (i + 1)) (((upd a1 (i + 1) (x4 + ch)) i) + 1) ((upd a2 (i + 1) x5) i)).1) (i + 1), (upd (upd a2 (i + 1) x5) (i + 1) (px_tb ((upd a1 (i + 1) (x4 + ch)) (i + 1), (upd a2 (i + 1) x5) (i + 1)) (((upd a1 (i + 1) (x4 + ch)) i) + 1) ((upd a2 (i + 1) x5) i)).2) (i + 1)) ((a1 (i + 1)) + 1) (a2 (i + 1))).1, upd (upd (upd a2 (i + 1) x5) (i + 1) (px_tb ((upd a1 (i + 1) (x4 + ch)) (i + 1), (upd a2 (i + 1) x5) (i + 1)) (((upd a1 (i + 1) (x4 + ch)) i) + 1) ((upd a2 (i + 1) x5) i)).2) (i + 1) (px_tb ((upd (upd a1 (i + 1) (x4 + ch)) (i + 1) (px_tb ((upd a1 (i + 1) (x4 + ch)) (i + 1), (upd a2 (i + 1) x5) (i + 1)) (((upd a1 (i + 1) (x4 + ch)) i) + 1) ((upd a2 (i + 1) x5) i)).1) (i + 1), (upd (upd a2 (i + 1) x5) (i + 1) (px_tb ((upd a1 (i + 1) (x4 + ch)) (i + 1), (upd a2 (i + 1) x5) (i + 1)) (((upd a1 (i + 1) (x4 + ch)) i) + 1) ((upd a2 (i + 1) x5) i)).2) (i + 1)) ((a1 (i + 1)) + 1) (a2 (i + 1))).2, a1 (i + 1), a2 (i + 1), by omega, e9.2.2, e9.1, e9.2.1, rfl, hP, hD, hS, lv_sub hl [6, 7, 8, 9, 2, 1, 0] rfl⟩
        · intro hj_11
          refine lv_icmp_ne (tgt := 111) hx hb dX0_moveTo_104 (by decide) (fun c_104 => ?_) (fun c_104 => ?_)
          · refine lv_iconst (v := 1) hx hb dX0_moveTo_111 (by decide) ?_
            exact hj_11 _ _ _ _ ⟨1, (if_neg c_104).symm, rfl, rfl, rfl, rfl⟩
          · refine lv_iconst (v := 0) hx hb dX0_moveTo_107 (by decide) ?_
            refine lv_goto (tgt := 112) hx hb dX0_moveTo_108 (by decide) ?_
            exact hj_11 _ _ _ _ ⟨0, (if_pos c_104).symm, rfl, rfl, rfl, rfl⟩
    · intro hj_12
      refine lv_icmp_ne (tgt := 57) hx hb dX0_moveTo_50 (by decide) (fun c_50 => ?_) (fun c_50 => ?_)
      · refine lv_iconst (v := 0) hx hb dX0_moveTo_57 (by decide) ?_
        exact hj_12 _ _ _ _ ⟨0, (if_neg c_50).symm, rfl, rfl, rfl, rfl⟩
      · refine lv_iload_n hx hb dX0_moveTo_53 rfl (lv_at hl 4 rfl) ?_
        refine lv_goto (tgt := 58) hx hb dX0_moveTo_54 (by decide) ?_
        exact hj_12 _ _ _ _ ⟨nI (j + 1), (if_pos c_50).symm, rfl, rfl, rfl, rfl⟩
  · intro hj_13
    refine lv_icmp_ne (tgt := 41) hx hb dX0_moveTo_34 (by decide) (fun c_34 => ?_) (fun c_34 => ?_)
    · refine lv_iload_n hx hb dX0_moveTo_41 rfl (lv_at hl 4 rfl) ?_
      exact hj_13 _ _ _ _ ⟨nI (j + 1), (if_neg c_34).symm, rfl, rfl, rfl, rfl⟩
    · refine lv_iconst (v := 0) hx hb dX0_moveTo_37 (by decide) ?_
      refine lv_goto (tgt := 42) hx hb dX0_moveTo_38 (by decide) ?_
      exact hj_13 _ _ _ _ ⟨0, (if_pos c_34).symm, rfl, rfl, rfl, rfl⟩

set_option maxHeartbeats 4000000 in
set_option maxRecDepth 100000 in
theorem c_X0_lookFor (l : Launch) (D : va_G) (cI cJ cL : ClassId) (sz : Nat) (g : Nat) (gp : Nat) (gpa : Nat) (gt : Nat) (gta : Nat) (ge : Nat) (gd : Nat) (gs : Nat) (gn : Nat) (gl : Nat) (om : Nat) (on : Nat) (cnt : Nat) (op : Nat → Int32) (ot : Nat → Int32) (fe : Nat → Int32) (fd : Nat → Int32) (fs : Nat → Int32) (fn : Nat → Int32) (fl : Nat → Int32) (hp : Nat) (hpa : Nat) (ht : Nat) (hta : Nat) (mm : Nat) (nn : Nat) (pp : Nat → Int32) (tt : Nat → Int32) (mode : Int32) (bound : Int32) (hmm : mm ≤ 150) (hnn : nn ≤ 300) :
    Met l yX0_lookFor wsX0_lookFor { frames := 2, cells := 0, slots := 0, locals := 52 } (va_Pc [.ref g, .ref hp, .ref ht, .int mode, .int bound] (Wd D [(cI, .int), (cJ, .array .int), (cL, .long)] [(g, .inr (0, [.ref gp, .ref gt, .ref ge, .ref gd, .ref gs, .int (nI cnt), .ref gn, .ref gl])), (gp, .inr (4, [.ref gpa, .int (nI om)])), (gpa, .inl (cI, 150, .inl op)), (gt, .inr (4, [.ref gta, .int (nI on)])), (gta, .inl (cI, 300, .inl ot)), (ge, .inl (cI, 301, .inl fe)), (gd, .inl (cI, 301, .inl fd)), (gs, .inl (cI, 301, .inl fs)), (gn, .inl (cI, 151, .inl fn)), (gl, .inl (cI, 151, .inl fl)), (hp, .inr (4, [.ref hpa, .int (nI mm)])), (hpa, .inl (cI, 150, .inl pp)), (ht, .inr (4, [.ref hta, .int (nI nn)])), (hta, .inl (cI, 300, .inl tt))] sz))
      (va_Qv (fun (u : (Nat → Int32) × (Nat → Int32)) => True) (fun u => Wa D [(cI, .int), (cJ, .array .int), (cL, .long)] (va_A [(g, .inr (0, [.ref gp, .ref gt, .ref ge, .ref gd, .ref gs, .int (nI cnt), .ref gn, .ref gl])), (gp, .inr (4, [.ref gpa, .int (nI om)])), (gpa, .inl (cI, 150, .inl op)), (gt, .inr (4, [.ref gta, .int (nI on)])), (gta, .inl (cI, 300, .inl ot)), (ge, .inl (cI, 301, .inl fe)), (gd, .inl (cI, 301, .inl fd)), (gs, .inl (cI, 301, .inl fs)), (gn, .inl (cI, 151, .inl fn)), (gl, .inl (cI, 151, .inl fl)), (hp, .inr (4, [.ref hpa, .int (nI mm)])), (hpa, .inl (cI, 150, .inl pp)), (ht, .inr (4, [.ref hta, .int (nI nn)])), (hta, .inl (cI, 300, .inl tt))] sz) ([(g, .inr (0, [.ref gp, .ref gt, .ref ge, .ref gd, .ref gs, .int (nI ((px_fnd mm nn (va_cpy pp op 0 0 mm) (va_cpy tt ot 0 0 nn) mode bound (cnt, fe, fd, fs) nn).1)), .ref gn, .ref gl])), (gp, .inr (4, [.ref gpa, .int (nI mm)])), (gpa, .inl (cI, 150, .inl (va_cpy pp op 0 0 mm))), (gt, .inr (4, [.ref gta, .int (nI nn)])), (gta, .inl (cI, 300, .inl (va_cpy tt ot 0 0 nn))), (ge, .inl (cI, 301, .inl ((px_fnd mm nn (va_cpy pp op 0 0 mm) (va_cpy tt ot 0 0 nn) mode bound (cnt, fe, fd, fs) nn).2.1))), (gd, .inl (cI, 301, .inl ((px_fnd mm nn (va_cpy pp op 0 0 mm) (va_cpy tt ot 0 0 nn) mode bound (cnt, fe, fd, fs) nn).2.2.1))), (gs, .inl (cI, 301, .inl ((px_fnd mm nn (va_cpy pp op 0 0 mm) (va_cpy tt ot 0 0 nn) mode bound (cnt, fe, fd, fs) nn).2.2.2))), (gn, .inl (cI, 151, .inl u.1)), (gl, .inl (cI, 151, .inl u.2)), (hp, .inr (4, [.ref hpa, .int (nI mm)])), (hpa, .inl (cI, 150, .inl pp)), (ht, .inr (4, [.ref hta, .int (nI nn)])), (hta, .inl (cI, 300, .inl tt))])) (va_A [(g, .inr (0, [.ref gp, .ref gt, .ref ge, .ref gd, .ref gs, .int (nI cnt), .ref gn, .ref gl])), (gp, .inr (4, [.ref gpa, .int (nI om)])), (gpa, .inl (cI, 150, .inl op)), (gt, .inr (4, [.ref gta, .int (nI on)])), (gta, .inl (cI, 300, .inl ot)), (ge, .inl (cI, 301, .inl fe)), (gd, .inl (cI, 301, .inl fd)), (gs, .inl (cI, 301, .inl fs)), (gn, .inl (cI, 151, .inl fn)), (gl, .inl (cI, 151, .inl fl)), (hp, .inr (4, [.ref hpa, .int (nI mm)])), (hpa, .inl (cI, 150, .inl pp)), (ht, .inr (4, [.ref hta, .int (nI nn)])), (hta, .inl (cI, 300, .inl tt))] sz)) 0 0 (va_A [(g, .inr (0, [.ref gp, .ref gt, .ref ge, .ref gd, .ref gs, .int (nI cnt), .ref gn, .ref gl])), (gp, .inr (4, [.ref gpa, .int (nI om)])), (gpa, .inl (cI, 150, .inl op)), (gt, .inr (4, [.ref gta, .int (nI on)])), (gta, .inl (cI, 300, .inl ot)), (ge, .inl (cI, 301, .inl fe)), (gd, .inl (cI, 301, .inl fd)), (gs, .inl (cI, 301, .inl fs)), (gn, .inl (cI, 151, .inl fn)), (gl, .inl (cI, 151, .inl fl)), (hp, .inr (4, [.ref hpa, .int (nI mm)])), (hpa, .inl (cI, 150, .inl pp)), (ht, .inr (4, [.ref hta, .int (nI nn)])), (hta, .inl (cI, 300, .inl tt))] sz) := by
  refine Met.ofW (cc := cX0_lookFor) (maxL := 6) (ret := none) (by decide) rfl ?_
  intro p e s m args below meth c s₁ B hml hv
  obtain ⟨rfl, hsz, hP, hK, hD0⟩ := hv
  have hx := B.exec
  have hb := B.bytes
  have hr := B.returns
  have hts := atoms_spec (ws := wsX0_lookFor) B.pre
  have hown : s.vm.findClass RX0 = some m.cls := findClass_of_methodNamed B.named
  have hlocks := B.notSynchronized
  subst hsz
  have hD := hD0.self (sz := s.heap.size)
  generalize hAe : va_A [(g, .inr (0, [.ref gp, .ref gt, .ref ge, .ref gd, .ref gs, .int (nI cnt), .ref gn, .ref gl])), (gp, .inr (4, [.ref gpa, .int (nI om)])), (gpa, .inl (cI, 150, .inl op)), (gt, .inr (4, [.ref gta, .int (nI on)])), (gta, .inl (cI, 300, .inl ot)), (ge, .inl (cI, 301, .inl fe)), (gd, .inl (cI, 301, .inl fd)), (gs, .inl (cI, 301, .inl fs)), (gn, .inl (cI, 151, .inl fn)), (gl, .inl (cI, 151, .inl fl)), (hp, .inr (4, [.ref hpa, .int (nI mm)])), (hpa, .inl (cI, 150, .inl pp)), (ht, .inr (4, [.ref hta, .int (nI nn)])), (hta, .inl (cI, 300, .inl tt))] s.heap.size = A at hD ⊢
  have hA : ∀ q : Nat, s.heap.size ≤ q → A q := fun q h => by rw [← hAe]; exact Or.inr h
  have hl := lv_entry ([.ref g, .ref hp, .ref ht, .int mode, .int bound]) (n := 6) (Nat.le_of_ble_eq_true rfl)
  rw [lg_entry_eq]
  generalize (lg_sl ([.ref g, .ref hp, .ref ht, .int mode, .int bound]) ++ List.replicate (6 - (lg_sl ([.ref g, .ref hp, .ref ht, .int mode, .int bound])).length) Slot.unset).toArray = ls at hl ⊢
  have hl : lv_has ls 6 [(0, .ref g), (1, .ref hp), (2, .ref ht), (3, .int mode), (4, .int bound)] := hl
  refine hv_start (A := A) (ws := [(g, .inr (0, [.ref gp, .ref gt, .ref ge, .ref gd, .ref gs, .int (nI cnt), .ref gn, .ref gl])), (gp, .inr (4, [.ref gpa, .int (nI om)])), (gpa, .inl (cI, 150, .inl op)), (gt, .inr (4, [.ref gta, .int (nI on)])), (gta, .inl (cI, 300, .inl ot)), (ge, .inl (cI, 301, .inl fe)), (gd, .inl (cI, 301, .inl fd)), (gs, .inl (cI, 301, .inl fs)), (gn, .inl (cI, 151, .inl fn)), (gl, .inl (cI, 151, .inl fl)), (hp, .inr (4, [.ref hpa, .int (nI mm)])), (hpa, .inl (cI, 150, .inl pp)), (ht, .inr (4, [.ref hta, .int (nI nn)])), (hta, .inl (cI, 300, .inl tt))]) hP (fun H locs hP hS => ?_)
  have w_0 := hts (.fieldLink RX0 14 "TextAligner$Findings" "pattern" "LTextAligner$SignRow;") (by decide +kernel)
  have i_X0 : ∀ w ∈ wsX00, w ∈ wsX0_lookFor := by decide +kernel
  have w_2 := hts (.fieldLink RX0 20 "TextAligner$Findings" "text" "LTextAligner$SignRow;") (by decide +kernel)
  have w_3 := hts (.fieldLink RX0 33 "TextAligner$Findings" "size" "I") (by decide +kernel)
  refine lv_aload_n hx hb dX0_lookFor_0 rfl (lv_at hl 0 rfl) ?_
  refine va_get (D := D) (ci := 0) (v := .ref gp) (C := RX0) (T := TX0) (N := 8) hx hb hts i_X0 hown hK hP 0 rfl rfl 0 (by decide) w_0 (fun _ h9 => h9) rfl dX0_lookFor_1 ?_
  refine lv_aload_n hx hb dX0_lookFor_4 rfl (lv_at hl 1 rfl) ?_
  have fr := fr_x (wc := [(gp, .inr (4, [.ref gpa, .int (nI om)])), (gpa, .inl (cI, 150, .inl op)), (hp, .inr (4, [.ref hpa, .int (nI mm)])), (hpa, .inl (cI, 150, .inl pp))]) (wr := [(g, .inr (0, [.ref gp, .ref gt, .ref ge, .ref gd, .ref gs, .int (nI cnt), .ref gn, .ref gl])), (gt, .inr (4, [.ref gta, .int (nI on)])), (gta, .inl (cI, 300, .inl ot)), (ge, .inl (cI, 301, .inl fe)), (gd, .inl (cI, 301, .inl fd)), (gs, .inl (cI, 301, .inl fs)), (gn, .inl (cI, 151, .inl fn)), (gl, .inl (cI, 151, .inl fl)), (ht, .inr (4, [.ref hta, .int (nI nn)])), (hta, .inl (cI, 300, .inl tt))]) hP hD hS hA [1, 2, 10, 11] [0, 3, 4, 5, 6, 7, 8, 9, 12, 13] rfl rfl (by decide) (by decide) (by decide)
  refine cv_v (J := fun _ => [(g, .inr (0, [.ref gp, .ref gt, .ref ge, .ref gd, .ref gs, .int (nI cnt), .ref gn, .ref gl])), (gp, .inr (4, [.ref gpa, .int (nI mm)])), (gpa, .inl (cI, 150, .inl (va_cpy pp op 0 0 mm))), (gt, .inr (4, [.ref gta, .int (nI on)])), (gta, .inl (cI, 300, .inl ot)), (ge, .inl (cI, 301, .inl fe)), (gd, .inl (cI, 301, .inl fd)), (gs, .inl (cI, 301, .inl fs)), (gn, .inl (cI, 151, .inl fn)), (gl, .inl (cI, 151, .inl fl)), (hp, .inr (4, [.ref hpa, .int (nI mm)])), (hpa, .inl (cI, 150, .inl pp)), (ht, .inr (4, [.ref hta, .int (nI nn)])), (hta, .inl (cI, 300, .inl tt))]) (As := [.ref hp]) (rest := []) (q0 := 0) (ci := 4) ⟨hx, hb, hml, hown, hts⟩ (c_X4_becomeCopyOf l D cI cJ cL H.size gp gpa 150 om op hp hpa 150 mm pp (by omega) (by omega) (by omega)) (cwV 1 hts gX0_lookFor_X4_becomeCopyOf rfl rfl rfl (by decide +kernel) ⟨Nat.le_of_ble_eq_true rfl, Nat.le_of_ble_eq_true rfl⟩) hK fr.1 fr.2.1 fr.2.2.1 (fun H1 u hk h1 h2 => ⟨(fr.2.2.2 _ H1 hk h1 h2).1.sub [0, 10, 11, 1, 2, 3, 4, 5, 6, 7, 12, 13, 8, 9] rfl, (fr.2.2.2 _ H1 hk h1 h2).2.sub [0, 10, 11, 1, 2, 3, 4, 5, 6, 7, 12, 13, 8, 9] (by decide) rfl⟩) hS rfl rfl rfl rfl hl.1 rfl (Nat.le_of_ble_eq_true rfl) dX0_lookFor_5 ⟨Nat.zero_le _, Nat.zero_le _⟩ (fun u_1 H locs hw hP hD hS => ?_)
  refine lv_aload_n hx hb dX0_lookFor_8 rfl (lv_at hl 0 rfl) ?_
  refine va_get (D := D) (ci := 0) (v := .ref gt) (C := RX0) (T := TX0) (N := 8) hx hb hts i_X0 hown hK hP 0 rfl rfl 1 (by decide) w_2 (fun _ h9 => h9) rfl dX0_lookFor_9 ?_
  refine lv_aload_n hx hb dX0_lookFor_12 rfl (lv_at hl 2 rfl) ?_
  have fr := fr_x (wc := [(gt, .inr (4, [.ref gta, .int (nI on)])), (gta, .inl (cI, 300, .inl ot)), (ht, .inr (4, [.ref hta, .int (nI nn)])), (hta, .inl (cI, 300, .inl tt))]) (wr := [(g, .inr (0, [.ref gp, .ref gt, .ref ge, .ref gd, .ref gs, .int (nI cnt), .ref gn, .ref gl])), (gp, .inr (4, [.ref gpa, .int (nI mm)])), (gpa, .inl (cI, 150, .inl (va_cpy pp op 0 0 mm))), (ge, .inl (cI, 301, .inl fe)), (gd, .inl (cI, 301, .inl fd)), (gs, .inl (cI, 301, .inl fs)), (gn, .inl (cI, 151, .inl fn)), (gl, .inl (cI, 151, .inl fl)), (hp, .inr (4, [.ref hpa, .int (nI mm)])), (hpa, .inl (cI, 150, .inl pp))]) hP hD hS hA [3, 4, 12, 13] [0, 1, 2, 5, 6, 7, 8, 9, 10, 11] rfl rfl (by decide) (by decide) (by decide)
  refine cv_v (J := fun _ => [(g, .inr (0, [.ref gp, .ref gt, .ref ge, .ref gd, .ref gs, .int (nI cnt), .ref gn, .ref gl])), (gp, .inr (4, [.ref gpa, .int (nI mm)])), (gpa, .inl (cI, 150, .inl (va_cpy pp op 0 0 mm))), (gt, .inr (4, [.ref gta, .int (nI nn)])), (gta, .inl (cI, 300, .inl (va_cpy tt ot 0 0 nn))), (ge, .inl (cI, 301, .inl fe)), (gd, .inl (cI, 301, .inl fd)), (gs, .inl (cI, 301, .inl fs)), (gn, .inl (cI, 151, .inl fn)), (gl, .inl (cI, 151, .inl fl)), (hp, .inr (4, [.ref hpa, .int (nI mm)])), (hpa, .inl (cI, 150, .inl pp)), (ht, .inr (4, [.ref hta, .int (nI nn)])), (hta, .inl (cI, 300, .inl tt))]) (As := [.ref ht]) (rest := []) (q0 := 0) (ci := 4) ⟨hx, hb, hml, hown, hts⟩ (c_X4_becomeCopyOf l D cI cJ cL H.size gt gta 300 on ot ht hta 300 nn tt (by omega) (by omega) (by omega)) (cwV 1 hts gX0_lookFor_X4_becomeCopyOf rfl rfl rfl (by decide +kernel) ⟨Nat.le_of_ble_eq_true rfl, Nat.le_of_ble_eq_true rfl⟩) hK fr.1 fr.2.1 fr.2.2.1 (fun H1 u hk h1 h2 => ⟨(fr.2.2.2 _ H1 hk h1 h2).1.sub [0, 1, 2, 10, 11, 3, 4, 5, 6, 7, 8, 9, 12, 13] rfl, (fr.2.2.2 _ H1 hk h1 h2).2.sub [0, 1, 2, 10, 11, 3, 4, 5, 6, 7, 8, 9, 12, 13] (by decide) rfl⟩) hS rfl rfl rfl rfl hl.1 rfl (Nat.le_of_ble_eq_true rfl) dX0_lookFor_13 ⟨Nat.zero_le _, Nat.zero_le _⟩ (fun u_3 H locs hw hP hD hS => ?_)
  refine lv_aload_n hx hb dX0_lookFor_16 rfl (lv_at hl 0 rfl) ?_
  refine lv_iconst (v := 0) hx hb dX0_lookFor_17 (by decide) ?_
  refine W.eq (g2 := F0 m 18 ls (.int (nI 0) :: [.ref g])) rfl ?_
  refine va_put (D := D) (ci := 0) (v := .int (nI 0)) (ty := .int) (C := RX0) (T := TX0) (N := 8) hx hb hts i_X0 tyX0 tyX0_ok nmX0 hown hK hP hD hS 0 rfl rfl 5 (by decide) w_3 (fun _ h9 => h9) rfl (by decide +kernel) rfl rfl (Nat.le_of_ble_eq_true rfl) dX0_lookFor_18 (fun H locs hP hD hS => ?_)
  have hP : va_P D vwCl [(g, .inr (0, [.ref gp, .ref gt, .ref ge, .ref gd, .ref gs, .int (nI 0), .ref gn, .ref gl])), (gp, .inr (4, [.ref gpa, .int (nI mm)])), (gpa, .inl (cI, 150, .inl (va_cpy pp op 0 0 mm))), (gt, .inr (4, [.ref gta, .int (nI nn)])), (gta, .inl (cI, 300, .inl (va_cpy tt ot 0 0 nn))), (ge, .inl (cI, 301, .inl fe)), (gd, .inl (cI, 301, .inl fd)), (gs, .inl (cI, 301, .inl fs)), (gn, .inl (cI, 151, .inl fn)), (gl, .inl (cI, 151, .inl fl)), (hp, .inr (4, [.ref hpa, .int (nI mm)])), (hpa, .inl (cI, 150, .inl pp)), (ht, .inr (4, [.ref hta, .int (nI nn)])), (hta, .inl (cI, 300, .inl tt))] H := hP
  have hD : va_D A [(g, .inr (0, [.ref gp, .ref gt, .ref ge, .ref gd, .ref gs, .int (nI 0), .ref gn, .ref gl])), (gp, .inr (4, [.ref gpa, .int (nI mm)])), (gpa, .inl (cI, 150, .inl (va_cpy pp op 0 0 mm))), (gt, .inr (4, [.ref gta, .int (nI nn)])), (gta, .inl (cI, 300, .inl (va_cpy tt ot 0 0 nn))), (ge, .inl (cI, 301, .inl fe)), (gd, .inl (cI, 301, .inl fd)), (gs, .inl (cI, 301, .inl fs)), (gn, .inl (cI, 151, .inl fn)), (gl, .inl (cI, 151, .inl fl)), (hp, .inr (4, [.ref hpa, .int (nI mm)])), (hpa, .inl (cI, 150, .inl pp)), (ht, .inr (4, [.ref hta, .int (nI nn)])), (hta, .inl (cI, 300, .inl tt))] := hD
  refine lv_aload_n hx hb dX0_lookFor_21 rfl (lv_at hl 0 rfl) ?_
  have fr := fr_x (wc := [(g, .inr (0, [.ref gp, .ref gt, .ref ge, .ref gd, .ref gs, .int (nI 0), .ref gn, .ref gl])), (gp, .inr (4, [.ref gpa, .int (nI mm)])), (gpa, .inl (cI, 150, .inl (va_cpy pp op 0 0 mm))), (gt, .inr (4, [.ref gta, .int (nI nn)])), (gta, .inl (cI, 300, .inl (va_cpy tt ot 0 0 nn))), (ge, .inl (cI, 301, .inl fe)), (gd, .inl (cI, 301, .inl fd)), (gs, .inl (cI, 301, .inl fs)), (gn, .inl (cI, 151, .inl fn)), (gl, .inl (cI, 151, .inl fl))]) (wr := [(hp, .inr (4, [.ref hpa, .int (nI mm)])), (hpa, .inl (cI, 150, .inl pp)), (ht, .inr (4, [.ref hta, .int (nI nn)])), (hta, .inl (cI, 300, .inl tt))]) hP hD hS hA [0, 1, 2, 3, 4, 5, 6, 7, 8, 9] [10, 11, 12, 13] rfl rfl (by decide) (by decide) (by decide)
  refine cv_v (J := fun u => [(g, .inr (0, [.ref gp, .ref gt, .ref ge, .ref gd, .ref gs, .int (nI 0), .ref gn, .ref gl])), (gp, .inr (4, [.ref gpa, .int (nI mm)])), (gpa, .inl (cI, 150, .inl (va_cpy pp op 0 0 mm))), (gt, .inr (4, [.ref gta, .int (nI nn)])), (gta, .inl (cI, 300, .inl (va_cpy tt ot 0 0 nn))), (ge, .inl (cI, 301, .inl fe)), (gd, .inl (cI, 301, .inl fd)), (gs, .inl (cI, 301, .inl fs)), (gn, .inl (cI, 151, .inl u.1)), (gl, .inl (cI, 151, .inl u.2)), (hp, .inr (4, [.ref hpa, .int (nI mm)])), (hpa, .inl (cI, 150, .inl pp)), (ht, .inr (4, [.ref hta, .int (nI nn)])), (hta, .inl (cI, 300, .inl tt))]) (As := []) (rest := []) (q0 := 0) (ci := 0) ⟨hx, hb, hml, hown, hts⟩ (c_X0_standAtFirstPlace l D cI cJ cL H.size g gp gpa gt gta ge gd gs gn gl mm nn 0 (va_cpy pp op 0 0 mm) (va_cpy tt ot 0 0 nn) fe fd fs fn fl (by omega)) (cwV 0 hts gX0_lookFor_X0_standAtFirstPlace rfl rfl rfl (by decide +kernel) ⟨Nat.le_of_ble_eq_true rfl, Nat.le_of_ble_eq_true rfl⟩) hK fr.1 fr.2.1 fr.2.2.1 (fun H1 u hk h1 h2 => ⟨(fr.2.2.2 _ H1 hk h1 h2).1.sub [4, 5, 6, 7, 8, 9, 10, 11, 12, 13, 0, 1, 2, 3] rfl, (fr.2.2.2 _ H1 hk h1 h2).2.sub [4, 5, 6, 7, 8, 9, 10, 11, 12, 13, 0, 1, 2, 3] (by decide) rfl⟩) hS rfl rfl rfl rfl hl.1 rfl (Nat.le_of_ble_eq_true rfl) dX0_lookFor_22 ⟨Nat.zero_le _, Nat.zero_le _⟩ (fun u_5 H locs hw hP hD hS => ?_)
  have hu0 : ∀ k, k ≤ mm → (u_5.1 k, u_5.2 k) = px_row (va_cpy pp op 0 0 mm) (va_cpy tt ot 0 0 nn) mode 0 k := hw
  refine lv_aload_n hx hb dX0_lookFor_25 rfl (lv_at hl 0 rfl) ?_
  refine lv_iload hx hb dX0_lookFor_26 (lv_at hl 4 rfl) ?_
  refine lv_iconst (v := 0) hx hb dX0_lookFor_28 (by decide) ?_
  refine W.eq (g2 := F0 m 29 ls (.int (nI 0) :: [.int bound, .ref g])) rfl ?_
  refine lv_iload_n hx hb dX0_lookFor_29 rfl (lv_at hl 3 rfl) ?_
  have fr := fr_x (wc := [(g, .inr (0, [.ref gp, .ref gt, .ref ge, .ref gd, .ref gs, .int (nI 0), .ref gn, .ref gl])), (gp, .inr (4, [.ref gpa, .int (nI mm)])), (gpa, .inl (cI, 150, .inl (va_cpy pp op 0 0 mm))), (gt, .inr (4, [.ref gta, .int (nI nn)])), (gta, .inl (cI, 300, .inl (va_cpy tt ot 0 0 nn))), (ge, .inl (cI, 301, .inl fe)), (gd, .inl (cI, 301, .inl fd)), (gs, .inl (cI, 301, .inl fs)), (gn, .inl (cI, 151, .inl u_5.1)), (gl, .inl (cI, 151, .inl u_5.2))]) (wr := [(hp, .inr (4, [.ref hpa, .int (nI mm)])), (hpa, .inl (cI, 150, .inl pp)), (ht, .inr (4, [.ref hta, .int (nI nn)])), (hta, .inl (cI, 300, .inl tt))]) hP hD hS hA [0, 1, 2, 3, 4, 5, 6, 7, 8, 9] [10, 11, 12, 13] rfl rfl (by decide) (by decide) (by decide)
  refine cv_v (J := fun _ => [(g, .inr (0, [.ref gp, .ref gt, .ref ge, .ref gd, .ref gs, .int (nI ((px_keep nn mode bound 0 (u_5.1 mm, u_5.2 mm) (0, fe, fd, fs)).1)), .ref gn, .ref gl])), (gp, .inr (4, [.ref gpa, .int (nI mm)])), (gpa, .inl (cI, 150, .inl (va_cpy pp op 0 0 mm))), (gt, .inr (4, [.ref gta, .int (nI nn)])), (gta, .inl (cI, 300, .inl (va_cpy tt ot 0 0 nn))), (ge, .inl (cI, 301, .inl ((px_keep nn mode bound 0 (u_5.1 mm, u_5.2 mm) (0, fe, fd, fs)).2.1))), (gd, .inl (cI, 301, .inl ((px_keep nn mode bound 0 (u_5.1 mm, u_5.2 mm) (0, fe, fd, fs)).2.2.1))), (gs, .inl (cI, 301, .inl ((px_keep nn mode bound 0 (u_5.1 mm, u_5.2 mm) (0, fe, fd, fs)).2.2.2))), (gn, .inl (cI, 151, .inl u_5.1)), (gl, .inl (cI, 151, .inl u_5.2)), (hp, .inr (4, [.ref hpa, .int (nI mm)])), (hpa, .inl (cI, 150, .inl pp)), (ht, .inr (4, [.ref hta, .int (nI nn)])), (hta, .inl (cI, 300, .inl tt))]) (As := [.int bound, .int (nI 0), .int mode]) (rest := []) (q0 := 0) (ci := 0) ⟨hx, hb, hml, hown, hts⟩ (c_X0_keepWithin l D cI cJ cL H.size g gp gpa gt gta ge gd gs gn gl mm nn 0 (va_cpy pp op 0 0 mm) (va_cpy tt ot 0 0 nn) fe fd fs u_5.1 u_5.2 bound mode 0 (by omega) (by omega) (by omega) (by omega)) (cwV 3 hts gX0_lookFor_X0_keepWithin rfl rfl rfl (by decide +kernel) ⟨Nat.le_of_ble_eq_true rfl, Nat.le_of_ble_eq_true rfl⟩) hK fr.1 fr.2.1 fr.2.2.1 (fun H1 u hk h1 h2 => ⟨(fr.2.2.2 _ H1 hk h1 h2).1.sub [4, 5, 6, 7, 8, 9, 10, 11, 12, 13, 0, 1, 2, 3] rfl, (fr.2.2.2 _ H1 hk h1 h2).2.sub [4, 5, 6, 7, 8, 9, 10, 11, 12, 13, 0, 1, 2, 3] (by decide) rfl⟩) hS rfl rfl rfl rfl hl.1 rfl (Nat.le_of_ble_eq_true rfl) dX0_lookFor_30 ⟨Nat.zero_le _, Nat.zero_le _⟩ (fun u_7 H locs hw hP hD hS => ?_)
  refine lv_iconst (v := 1) hx hb dX0_lookFor_33 (by decide) ?_
  refine lv_istore (lv' := [(5, .int 1), (0, .ref g), (1, .ref hp), (2, .ref ht), (3, .int mode), (4, .int bound)]) hx hb dX0_lookFor_34 hl (by decide) rfl (fun ls hl => ?_)
  have e9 : px_keep nn mode bound 0 (u_5.1 mm, u_5.2 mm) (0, fe, fd, fs) = (px_fnd mm nn (va_cpy pp op 0 0 mm) (va_cpy tt ot 0 0 nn) mode bound (cnt, fe, fd, fs) 0) := by rw [hu0 mm (Nat.le_refl _)]; rfl
  refine hv_loop (fun zz H locs ls => ∃ (j : Nat) (a1 : Nat → Int32) (a2 : Nat → Int32), j ≤ nn ∧ (∀ k, k ≤ mm → (a1 k, a2 k) = px_row (va_cpy pp op 0 0 mm) (va_cpy tt ot 0 0 nn) mode j k) ∧ zz = nn - j ∧ va_P D vwCl [(g, .inr (0, [.ref gp, .ref gt, .ref ge, .ref gd, .ref gs, .int (nI ((px_fnd mm nn (va_cpy pp op 0 0 mm) (va_cpy tt ot 0 0 nn) mode bound (cnt, fe, fd, fs) j).1)), .ref gn, .ref gl])), (gp, .inr (4, [.ref gpa, .int (nI mm)])), (gpa, .inl (cI, 150, .inl (va_cpy pp op 0 0 mm))), (gt, .inr (4, [.ref gta, .int (nI nn)])), (gta, .inl (cI, 300, .inl (va_cpy tt ot 0 0 nn))), (ge, .inl (cI, 301, .inl ((px_fnd mm nn (va_cpy pp op 0 0 mm) (va_cpy tt ot 0 0 nn) mode bound (cnt, fe, fd, fs) j).2.1))), (gd, .inl (cI, 301, .inl ((px_fnd mm nn (va_cpy pp op 0 0 mm) (va_cpy tt ot 0 0 nn) mode bound (cnt, fe, fd, fs) j).2.2.1))), (gs, .inl (cI, 301, .inl ((px_fnd mm nn (va_cpy pp op 0 0 mm) (va_cpy tt ot 0 0 nn) mode bound (cnt, fe, fd, fs) j).2.2.2))), (gn, .inl (cI, 151, .inl a1)), (gl, .inl (cI, 151, .inl a2)), (hp, .inr (4, [.ref hpa, .int (nI mm)])), (hpa, .inl (cI, 150, .inl pp)), (ht, .inr (4, [.ref hta, .int (nI nn)])), (hta, .inl (cI, 300, .inl tt))] H ∧ va_D A [(g, .inr (0, [.ref gp, .ref gt, .ref ge, .ref gd, .ref gs, .int (nI ((px_fnd mm nn (va_cpy pp op 0 0 mm) (va_cpy tt ot 0 0 nn) mode bound (cnt, fe, fd, fs) j).1)), .ref gn, .ref gl])), (gp, .inr (4, [.ref gpa, .int (nI mm)])), (gpa, .inl (cI, 150, .inl (va_cpy pp op 0 0 mm))), (gt, .inr (4, [.ref gta, .int (nI nn)])), (gta, .inl (cI, 300, .inl (va_cpy tt ot 0 0 nn))), (ge, .inl (cI, 301, .inl ((px_fnd mm nn (va_cpy pp op 0 0 mm) (va_cpy tt ot 0 0 nn) mode bound (cnt, fe, fd, fs) j).2.1))), (gd, .inl (cI, 301, .inl ((px_fnd mm nn (va_cpy pp op 0 0 mm) (va_cpy tt ot 0 0 nn) mode bound (cnt, fe, fd, fs) j).2.2.1))), (gs, .inl (cI, 301, .inl ((px_fnd mm nn (va_cpy pp op 0 0 mm) (va_cpy tt ot 0 0 nn) mode bound (cnt, fe, fd, fs) j).2.2.2))), (gn, .inl (cI, 151, .inl a1)), (gl, .inl (cI, 151, .inl a2)), (hp, .inr (4, [.ref hpa, .int (nI mm)])), (hpa, .inl (cI, 150, .inl pp)), (ht, .inr (4, [.ref hta, .int (nI nn)])), (hta, .inl (cI, 300, .inl tt))] ∧ va_S A s.heap H locs ∧ lv_has ls 6 [(0, .ref g), (3, .int mode), (4, .int bound), (5, .int (nI (j + 1)))]) ?_ _ ⟨0, u_5.1, u_5.2, by omega, fun k q => hu0 k q, rfl, by rw [← e9]; exact hP, by rw [← e9]; exact hD, hS, lv_sub hl [1, 4, 5, 0] rfl⟩
  intro zz_36 H locs ls hI ih_36
  obtain ⟨j, a1, a2, hj, hrow, hzz_36, hP, hD, hS, hl⟩ := hI
  refine lv_iload hx hb dX0_lookFor_36 (lv_at hl 3 rfl) ?_
  refine lv_aload_n hx hb dX0_lookFor_38 rfl (lv_at hl 0 rfl) ?_
  refine va_get (D := D) (ci := 0) (v := .ref gt) (C := RX0) (T := TX0) (N := 8) hx hb hts i_X0 hown hK hP 0 rfl rfl 1 (by decide) w_2 (fun _ h9 => h9) rfl dX0_lookFor_39 ?_
  have fr := fr_x (wc := [(gt, .inr (4, [.ref gta, .int (nI nn)])), (gta, .inl (cI, 300, .inl (va_cpy tt ot 0 0 nn)))]) (wr := [(g, .inr (0, [.ref gp, .ref gt, .ref ge, .ref gd, .ref gs, .int (nI ((px_fnd mm nn (va_cpy pp op 0 0 mm) (va_cpy tt ot 0 0 nn) mode bound (cnt, fe, fd, fs) j).1)), .ref gn, .ref gl])), (gp, .inr (4, [.ref gpa, .int (nI mm)])), (gpa, .inl (cI, 150, .inl (va_cpy pp op 0 0 mm))), (ge, .inl (cI, 301, .inl ((px_fnd mm nn (va_cpy pp op 0 0 mm) (va_cpy tt ot 0 0 nn) mode bound (cnt, fe, fd, fs) j).2.1))), (gd, .inl (cI, 301, .inl ((px_fnd mm nn (va_cpy pp op 0 0 mm) (va_cpy tt ot 0 0 nn) mode bound (cnt, fe, fd, fs) j).2.2.1))), (gs, .inl (cI, 301, .inl ((px_fnd mm nn (va_cpy pp op 0 0 mm) (va_cpy tt ot 0 0 nn) mode bound (cnt, fe, fd, fs) j).2.2.2))), (gn, .inl (cI, 151, .inl a1)), (gl, .inl (cI, 151, .inl a2)), (hp, .inr (4, [.ref hpa, .int (nI mm)])), (hpa, .inl (cI, 150, .inl pp)), (ht, .inr (4, [.ref hta, .int (nI nn)])), (hta, .inl (cI, 300, .inl tt))]) hP hD hS hA [3, 4] [0, 1, 2, 5, 6, 7, 8, 9, 10, 11, 12, 13] rfl rfl (by decide) (by decide) (by decide)
  refine cv_i (J := fun _ => [(g, .inr (0, [.ref gp, .ref gt, .ref ge, .ref gd, .ref gs, .int (nI ((px_fnd mm nn (va_cpy pp op 0 0 mm) (va_cpy tt ot 0 0 nn) mode bound (cnt, fe, fd, fs) j).1)), .ref gn, .ref gl])), (gp, .inr (4, [.ref gpa, .int (nI mm)])), (gpa, .inl (cI, 150, .inl (va_cpy pp op 0 0 mm))), (gt, .inr (4, [.ref gta, .int (nI nn)])), (gta, .inl (cI, 300, .inl (va_cpy tt ot 0 0 nn))), (ge, .inl (cI, 301, .inl ((px_fnd mm nn (va_cpy pp op 0 0 mm) (va_cpy tt ot 0 0 nn) mode bound (cnt, fe, fd, fs) j).2.1))), (gd, .inl (cI, 301, .inl ((px_fnd mm nn (va_cpy pp op 0 0 mm) (va_cpy tt ot 0 0 nn) mode bound (cnt, fe, fd, fs) j).2.2.1))), (gs, .inl (cI, 301, .inl ((px_fnd mm nn (va_cpy pp op 0 0 mm) (va_cpy tt ot 0 0 nn) mode bound (cnt, fe, fd, fs) j).2.2.2))), (gn, .inl (cI, 151, .inl a1)), (gl, .inl (cI, 151, .inl a2)), (hp, .inr (4, [.ref hpa, .int (nI mm)])), (hpa, .inl (cI, 150, .inl pp)), (ht, .inr (4, [.ref hta, .int (nI nn)])), (hta, .inl (cI, 300, .inl tt))]) (As := []) (rest := [.int (nI (j + 1))]) (q0 := 0) (ci := 4) ⟨hx, hb, hml, hown, hts⟩ (c_X4_size l D cI cJ cL H.size gt gta 300 nn (va_cpy tt ot 0 0 nn) ) (cwV 0 hts gX0_lookFor_X4_size rfl rfl rfl (by decide +kernel) ⟨Nat.le_of_ble_eq_true rfl, Nat.le_of_ble_eq_true rfl⟩) hK fr.1 fr.2.1 fr.2.2.1 (fun H1 u hk h1 h2 => ⟨(fr.2.2.2 _ H1 hk h1 h2).1.sub [0, 1, 2, 12, 13, 3, 4, 5, 6, 7, 8, 9, 10, 11] rfl, (fr.2.2.2 _ H1 hk h1 h2).2.sub [0, 1, 2, 12, 13, 3, 4, 5, 6, 7, 8, 9, 10, 11] (by decide) rfl⟩) hS rfl rfl rfl rfl hl.1 rfl (Nat.le_of_ble_eq_true rfl) dX0_lookFor_42 ⟨Nat.zero_le _, Nat.zero_le _⟩ (fun r_10 u_9 H locs hw hP hD hS => ?_)
  subst hw
  refine lv_icmp_gt (tgt := 70) hx hb dX0_lookFor_45 (by decide) (fun c_45 => ?_) (fun c_45 => ?_)
  · have k_45 : nn < j + 1 := (nI_ltI (a := nn) (b := j + 1) (by omega) (by omega)).mp c_45
    have hj9 : j = nn := by omega
    subst hj9
    exact fin_v (a1, a2) hx hb hr hlocks dX0_lookFor_70 hK hS hP hD trivial
  · have k_45 : ¬ (nn < j + 1) := fun q => c_45 ((nI_ltI (a := nn) (b := j + 1) (by omega) (by omega)).mpr q)
    refine lv_aload_n hx hb dX0_lookFor_48 rfl (lv_at hl 0 rfl) ?_
    refine lv_iload hx hb dX0_lookFor_49 (lv_at hl 3 rfl) ?_
    refine lv_iload_n hx hb dX0_lookFor_51 rfl (lv_at hl 1 rfl) ?_
    have fr := fr_x (wc := [(g, .inr (0, [.ref gp, .ref gt, .ref ge, .ref gd, .ref gs, .int (nI ((px_fnd mm nn (va_cpy pp op 0 0 mm) (va_cpy tt ot 0 0 nn) mode bound (cnt, fe, fd, fs) j).1)), .ref gn, .ref gl])), (gp, .inr (4, [.ref gpa, .int (nI mm)])), (gpa, .inl (cI, 150, .inl (va_cpy pp op 0 0 mm))), (gt, .inr (4, [.ref gta, .int (nI nn)])), (gta, .inl (cI, 300, .inl (va_cpy tt ot 0 0 nn))), (ge, .inl (cI, 301, .inl ((px_fnd mm nn (va_cpy pp op 0 0 mm) (va_cpy tt ot 0 0 nn) mode bound (cnt, fe, fd, fs) j).2.1))), (gd, .inl (cI, 301, .inl ((px_fnd mm nn (va_cpy pp op 0 0 mm) (va_cpy tt ot 0 0 nn) mode bound (cnt, fe, fd, fs) j).2.2.1))), (gs, .inl (cI, 301, .inl ((px_fnd mm nn (va_cpy pp op 0 0 mm) (va_cpy tt ot 0 0 nn) mode bound (cnt, fe, fd, fs) j).2.2.2))), (gn, .inl (cI, 151, .inl a1)), (gl, .inl (cI, 151, .inl a2))]) (wr := [(hp, .inr (4, [.ref hpa, .int (nI mm)])), (hpa, .inl (cI, 150, .inl pp)), (ht, .inr (4, [.ref hta, .int (nI nn)])), (hta, .inl (cI, 300, .inl tt))]) hP hD hS hA [0, 1, 2, 3, 4, 5, 6, 7, 8, 9] [10, 11, 12, 13] rfl rfl (by decide) (by decide) (by decide)
    refine cv_v (J := fun u => [(g, .inr (0, [.ref gp, .ref gt, .ref ge, .ref gd, .ref gs, .int (nI ((px_fnd mm nn (va_cpy pp op 0 0 mm) (va_cpy tt ot 0 0 nn) mode bound (cnt, fe, fd, fs) j).1)), .ref gn, .ref gl])), (gp, .inr (4, [.ref gpa, .int (nI mm)])), (gpa, .inl (cI, 150, .inl (va_cpy pp op 0 0 mm))), (gt, .inr (4, [.ref gta, .int (nI nn)])), (gta, .inl (cI, 300, .inl (va_cpy tt ot 0 0 nn))), (ge, .inl (cI, 301, .inl ((px_fnd mm nn (va_cpy pp op 0 0 mm) (va_cpy tt ot 0 0 nn) mode bound (cnt, fe, fd, fs) j).2.1))), (gd, .inl (cI, 301, .inl ((px_fnd mm nn (va_cpy pp op 0 0 mm) (va_cpy tt ot 0 0 nn) mode bound (cnt, fe, fd, fs) j).2.2.1))), (gs, .inl (cI, 301, .inl ((px_fnd mm nn (va_cpy pp op 0 0 mm) (va_cpy tt ot 0 0 nn) mode bound (cnt, fe, fd, fs) j).2.2.2))), (gn, .inl (cI, 151, .inl u.1)), (gl, .inl (cI, 151, .inl u.2)), (hp, .inr (4, [.ref hpa, .int (nI mm)])), (hpa, .inl (cI, 150, .inl pp)), (ht, .inr (4, [.ref hta, .int (nI nn)])), (hta, .inl (cI, 300, .inl tt))]) (As := [.int (nI (j + 1)), .int mode]) (rest := []) (q0 := 0) (ci := 0) ⟨hx, hb, hml, hown, hts⟩ (c_X0_moveTo l D cI cJ cL H.size g gp gpa gt gta ge gd gs gn gl mm nn ((px_fnd mm nn (va_cpy pp op 0 0 mm) (va_cpy tt ot 0 0 nn) mode bound (cnt, fe, fd, fs) j).1) (va_cpy pp op 0 0 mm) (va_cpy tt ot 0 0 nn) ((px_fnd mm nn (va_cpy pp op 0 0 mm) (va_cpy tt ot 0 0 nn) mode bound (cnt, fe, fd, fs) j).2.1) ((px_fnd mm nn (va_cpy pp op 0 0 mm) (va_cpy tt ot 0 0 nn) mode bound (cnt, fe, fd, fs) j).2.2.1) ((px_fnd mm nn (va_cpy pp op 0 0 mm) (va_cpy tt ot 0 0 nn) mode bound (cnt, fe, fd, fs) j).2.2.2) a1 a2 j mode (px_row (va_cpy pp op 0 0 mm) (va_cpy tt ot 0 0 nn) mode j) (by omega) (by omega) (by omega) hrow) (cwV 2 hts gX0_lookFor_X0_moveTo rfl rfl rfl (by decide +kernel) ⟨Nat.le_of_ble_eq_true rfl, Nat.le_of_ble_eq_true rfl⟩) hK fr.1 fr.2.1 fr.2.2.1 (fun H1 u hk h1 h2 => ⟨(fr.2.2.2 _ H1 hk h1 h2).1.sub [4, 5, 6, 7, 8, 9, 10, 11, 12, 13, 0, 1, 2, 3] rfl, (fr.2.2.2 _ H1 hk h1 h2).2.sub [4, 5, 6, 7, 8, 9, 10, 11, 12, 13, 0, 1, 2, 3] (by decide) rfl⟩) hS rfl rfl rfl rfl hl.1 rfl (Nat.le_of_ble_eq_true rfl) dX0_lookFor_52 ⟨Nat.zero_le _, Nat.zero_le _⟩ (fun u_11 H locs hw hP hD hS => ?_)
    have hu1 : ∀ k, k ≤ mm → (u_11.1 k, u_11.2 k) = px_row (va_cpy pp op 0 0 mm) (va_cpy tt ot 0 0 nn) mode (j + 1) k := hw
    refine lv_aload_n hx hb dX0_lookFor_55 rfl (lv_at hl 0 rfl) ?_
    refine lv_iload hx hb dX0_lookFor_56 (lv_at hl 2 rfl) ?_
    refine lv_iload hx hb dX0_lookFor_58 (lv_at hl 3 rfl) ?_
    refine lv_iload_n hx hb dX0_lookFor_60 rfl (lv_at hl 1 rfl) ?_
    have hcn : (px_fnd mm nn (va_cpy pp op 0 0 mm) (va_cpy tt ot 0 0 nn) mode bound (cnt, fe, fd, fs) j).1 ≤ j + 1 := px_fnd_le j
    have fr := fr_x (wc := [(g, .inr (0, [.ref gp, .ref gt, .ref ge, .ref gd, .ref gs, .int (nI ((px_fnd mm nn (va_cpy pp op 0 0 mm) (va_cpy tt ot 0 0 nn) mode bound (cnt, fe, fd, fs) j).1)), .ref gn, .ref gl])), (gp, .inr (4, [.ref gpa, .int (nI mm)])), (gpa, .inl (cI, 150, .inl (va_cpy pp op 0 0 mm))), (gt, .inr (4, [.ref gta, .int (nI nn)])), (gta, .inl (cI, 300, .inl (va_cpy tt ot 0 0 nn))), (ge, .inl (cI, 301, .inl ((px_fnd mm nn (va_cpy pp op 0 0 mm) (va_cpy tt ot 0 0 nn) mode bound (cnt, fe, fd, fs) j).2.1))), (gd, .inl (cI, 301, .inl ((px_fnd mm nn (va_cpy pp op 0 0 mm) (va_cpy tt ot 0 0 nn) mode bound (cnt, fe, fd, fs) j).2.2.1))), (gs, .inl (cI, 301, .inl ((px_fnd mm nn (va_cpy pp op 0 0 mm) (va_cpy tt ot 0 0 nn) mode bound (cnt, fe, fd, fs) j).2.2.2))), (gn, .inl (cI, 151, .inl u_11.1)), (gl, .inl (cI, 151, .inl u_11.2))]) (wr := [(hp, .inr (4, [.ref hpa, .int (nI mm)])), (hpa, .inl (cI, 150, .inl pp)), (ht, .inr (4, [.ref hta, .int (nI nn)])), (hta, .inl (cI, 300, .inl tt))]) hP hD hS hA [0, 1, 2, 3, 4, 5, 6, 7, 8, 9] [10, 11, 12, 13] rfl rfl (by decide) (by decide) (by decide)
    refine cv_v (J := fun _ => [(g, .inr (0, [.ref gp, .ref gt, .ref ge, .ref gd, .ref gs, .int (nI ((px_keep nn mode bound (j + 1) (u_11.1 mm, u_11.2 mm) (((px_fnd mm nn (va_cpy pp op 0 0 mm) (va_cpy tt ot 0 0 nn) mode bound (cnt, fe, fd, fs) j).1), ((px_fnd mm nn (va_cpy pp op 0 0 mm) (va_cpy tt ot 0 0 nn) mode bound (cnt, fe, fd, fs) j).2.1), ((px_fnd mm nn (va_cpy pp op 0 0 mm) (va_cpy tt ot 0 0 nn) mode bound (cnt, fe, fd, fs) j).2.2.1), ((px_fnd mm nn (va_cpy pp op 0 0 mm) (va_cpy tt ot 0 0 nn) mode bound (cnt, fe, fd, fs) j).2.2.2))).1)), .ref gn, .ref gl])), (gp, .inr (4, [.ref gpa, .int (nI mm)])), (gpa, .inl (cI, 150, .inl (va_cpy pp op 0 0 mm))), (gt, .inr (4, [.ref gta, .int (nI nn)])), (gta, .inl (cI, 300, .inl (va_cpy tt ot 0 0 nn))), (ge, .inl (cI, 301, .inl ((px_keep nn mode bound (j + 1) (u_11.1 mm, u_11.2 mm) (((px_fnd mm nn (va_cpy pp op 0 0 mm) (va_cpy tt ot 0 0 nn) mode bound (cnt, fe, fd, fs) j).1), ((px_fnd mm nn (va_cpy pp op 0 0 mm) (va_cpy tt ot 0 0 nn) mode bound (cnt, fe, fd, fs) j).2.1), ((px_fnd mm nn (va_cpy pp op 0 0 mm) (va_cpy tt ot 0 0 nn) mode bound (cnt, fe, fd, fs) j).2.2.1), ((px_fnd mm nn (va_cpy pp op 0 0 mm) (va_cpy tt ot 0 0 nn) mode bound (cnt, fe, fd, fs) j).2.2.2))).2.1))), (gd, .inl (cI, 301, .inl ((px_keep nn mode bound (j + 1) (u_11.1 mm, u_11.2 mm) (((px_fnd mm nn (va_cpy pp op 0 0 mm) (va_cpy tt ot 0 0 nn) mode bound (cnt, fe, fd, fs) j).1), ((px_fnd mm nn (va_cpy pp op 0 0 mm) (va_cpy tt ot 0 0 nn) mode bound (cnt, fe, fd, fs) j).2.1), ((px_fnd mm nn (va_cpy pp op 0 0 mm) (va_cpy tt ot 0 0 nn) mode bound (cnt, fe, fd, fs) j).2.2.1), ((px_fnd mm nn (va_cpy pp op 0 0 mm) (va_cpy tt ot 0 0 nn) mode bound (cnt, fe, fd, fs) j).2.2.2))).2.2.1))), (gs, .inl (cI, 301, .inl ((px_keep nn mode bound (j + 1) (u_11.1 mm, u_11.2 mm) (((px_fnd mm nn (va_cpy pp op 0 0 mm) (va_cpy tt ot 0 0 nn) mode bound (cnt, fe, fd, fs) j).1), ((px_fnd mm nn (va_cpy pp op 0 0 mm) (va_cpy tt ot 0 0 nn) mode bound (cnt, fe, fd, fs) j).2.1), ((px_fnd mm nn (va_cpy pp op 0 0 mm) (va_cpy tt ot 0 0 nn) mode bound (cnt, fe, fd, fs) j).2.2.1), ((px_fnd mm nn (va_cpy pp op 0 0 mm) (va_cpy tt ot 0 0 nn) mode bound (cnt, fe, fd, fs) j).2.2.2))).2.2.2))), (gn, .inl (cI, 151, .inl u_11.1)), (gl, .inl (cI, 151, .inl u_11.2)), (hp, .inr (4, [.ref hpa, .int (nI mm)])), (hpa, .inl (cI, 150, .inl pp)), (ht, .inr (4, [.ref hta, .int (nI nn)])), (hta, .inl (cI, 300, .inl tt))]) (As := [.int bound, .int (nI (j + 1)), .int mode]) (rest := []) (q0 := 0) (ci := 0) ⟨hx, hb, hml, hown, hts⟩ (c_X0_keepWithin l D cI cJ cL H.size g gp gpa gt gta ge gd gs gn gl mm nn ((px_fnd mm nn (va_cpy pp op 0 0 mm) (va_cpy tt ot 0 0 nn) mode bound (cnt, fe, fd, fs) j).1) (va_cpy pp op 0 0 mm) (va_cpy tt ot 0 0 nn) ((px_fnd mm nn (va_cpy pp op 0 0 mm) (va_cpy tt ot 0 0 nn) mode bound (cnt, fe, fd, fs) j).2.1) ((px_fnd mm nn (va_cpy pp op 0 0 mm) (va_cpy tt ot 0 0 nn) mode bound (cnt, fe, fd, fs) j).2.2.1) ((px_fnd mm nn (va_cpy pp op 0 0 mm) (va_cpy tt ot 0 0 nn) mode bound (cnt, fe, fd, fs) j).2.2.2) u_11.1 u_11.2 bound mode (j + 1) (by omega) (by omega) (by omega) hcn) (cwV 3 hts gX0_lookFor_X0_keepWithin rfl rfl rfl (by decide +kernel) ⟨Nat.le_of_ble_eq_true rfl, Nat.le_of_ble_eq_true rfl⟩) hK fr.1 fr.2.1 fr.2.2.1 (fun H1 u hk h1 h2 => ⟨(fr.2.2.2 _ H1 hk h1 h2).1.sub [4, 5, 6, 7, 8, 9, 10, 11, 12, 13, 0, 1, 2, 3] rfl, (fr.2.2.2 _ H1 hk h1 h2).2.sub [4, 5, 6, 7, 8, 9, 10, 11, 12, 13, 0, 1, 2, 3] (by decide) rfl⟩) hS rfl rfl rfl rfl hl.1 rfl (Nat.le_of_ble_eq_true rfl) dX0_lookFor_61 ⟨Nat.zero_le _, Nat.zero_le _⟩ (fun u_13 H locs hw hP hD hS => ?_)
    refine lv_iinc (v := nI (j + 1 + 1)) (lv' := [(5, .int (nI (j + 1 + 1))), (0, .ref g), (3, .int mode), (4, .int bound)]) hx hb dX0_lookFor_64 hl (k := 3) rfl (nI_add (j + 1) 1) (by decide) rfl (fun ls hl => ?_)
    refine lv_goto (tgt := 36) hx hb dX0_lookFor_67 (by decide) ?_
    have e9 : px_keep nn mode bound (j + 1) (u_11.1 mm, u_11.2 mm) ((px_fnd mm nn (va_cpy pp op 0 0 mm) (va_cpy tt ot 0 0 nn) mode bound (cnt, fe, fd, fs) j).1, (px_fnd mm nn (va_cpy pp op 0 0 mm) (va_cpy tt ot 0 0 nn) mode bound (cnt, fe, fd, fs) j).2.1, (px_fnd mm nn (va_cpy pp op 0 0 mm) (va_cpy tt ot 0 0 nn) mode bound (cnt, fe, fd, fs) j).2.2.1, (px_fnd mm nn (va_cpy pp op 0 0 mm) (va_cpy tt ot 0 0 nn) mode bound (cnt, fe, fd, fs) j).2.2.2) = (px_fnd mm nn (va_cpy pp op 0 0 mm) (va_cpy tt ot 0 0 nn) mode bound (cnt, fe, fd, fs) (j + 1)) := by rw [hu1 mm (Nat.le_refl _)]; rfl
    exact ih_36 (nn - (j + 1)) _ _ _ (by omega) ⟨j + 1, u_11.1, u_11.2, by omega, hu1, rfl, by rw [← e9]; exact hP, by rw [← e9]; exact hD, hS, lv_sub hl [1, 2, 3, 0] rfl⟩
