set_option maxHeartbeats 4000000 in
set_option maxRecDepth 100000 in
theorem c_X0_searchedPattern (l : Launch) (D : va_G) (cI cJ cL : ClassId) (sz : Nat) (g : Nat) (gp : Nat) (gpa : Nat) (gt : Nat) (gta : Nat) (ge : Nat) (gd : Nat) (gs : Nat) (gn : Nat) (gl : Nat) (om : Nat) (on : Nat) (cnt : Nat) (op : Nat → Int32) (ot : Nat → Int32) (fe : Nat → Int32) (fd : Nat → Int32) (fs : Nat → Int32) (fn : Nat → Int32) (fl : Nat → Int32)  :
    Met l yX0_searchedPattern wsX0_searchedPattern { frames := 0, cells := 0, slots := 0, locals := 0 } (va_Pc [.ref g] (Wd D [(cI, .int), (cJ, .array .int), (cL, .long)] [(g, .inr (0, [.ref gp, .ref gt, .ref ge, .ref gd, .ref gs, .int (nI cnt), .ref gn, .ref gl])), (gp, .inr (4, [.ref gpa, .int (nI om)])), (gpa, .inl (cI, 150, .inl op)), (gt, .inr (4, [.ref gta, .int (nI on)])), (gta, .inl (cI, 300, .inl ot)), (ge, .inl (cI, 301, .inl fe)), (gd, .inl (cI, 301, .inl fd)), (gs, .inl (cI, 301, .inl fs)), (gn, .inl (cI, 151, .inl fn)), (gl, .inl (cI, 151, .inl fl))] sz))
      (va_Qr (fun (_ : Unit) => True) (fun _ a t => a = gp ∧ Wa D [(cI, .int), (cJ, .array .int), (cL, .long)] (va_A [(g, .inr (0, [.ref gp, .ref gt, .ref ge, .ref gd, .ref gs, .int (nI cnt), .ref gn, .ref gl])), (gp, .inr (4, [.ref gpa, .int (nI om)])), (gpa, .inl (cI, 150, .inl op)), (gt, .inr (4, [.ref gta, .int (nI on)])), (gta, .inl (cI, 300, .inl ot)), (ge, .inl (cI, 301, .inl fe)), (gd, .inl (cI, 301, .inl fd)), (gs, .inl (cI, 301, .inl fs)), (gn, .inl (cI, 151, .inl fn)), (gl, .inl (cI, 151, .inl fl))] sz) [(g, .inr (0, [.ref gp, .ref gt, .ref ge, .ref gd, .ref gs, .int (nI cnt), .ref gn, .ref gl])), (gp, .inr (4, [.ref gpa, .int (nI om)])), (gpa, .inl (cI, 150, .inl op)), (gt, .inr (4, [.ref gta, .int (nI on)])), (gta, .inl (cI, 300, .inl ot)), (ge, .inl (cI, 301, .inl fe)), (gd, .inl (cI, 301, .inl fd)), (gs, .inl (cI, 301, .inl fs)), (gn, .inl (cI, 151, .inl fn)), (gl, .inl (cI, 151, .inl fl))] t) (va_A [(g, .inr (0, [.ref gp, .ref gt, .ref ge, .ref gd, .ref gs, .int (nI cnt), .ref gn, .ref gl])), (gp, .inr (4, [.ref gpa, .int (nI om)])), (gpa, .inl (cI, 150, .inl op)), (gt, .inr (4, [.ref gta, .int (nI on)])), (gta, .inl (cI, 300, .inl ot)), (ge, .inl (cI, 301, .inl fe)), (gd, .inl (cI, 301, .inl fd)), (gs, .inl (cI, 301, .inl fs)), (gn, .inl (cI, 151, .inl fn)), (gl, .inl (cI, 151, .inl fl))] sz)) 0 0 (va_A [(g, .inr (0, [.ref gp, .ref gt, .ref ge, .ref gd, .ref gs, .int (nI cnt), .ref gn, .ref gl])), (gp, .inr (4, [.ref gpa, .int (nI om)])), (gpa, .inl (cI, 150, .inl op)), (gt, .inr (4, [.ref gta, .int (nI on)])), (gta, .inl (cI, 300, .inl ot)), (ge, .inl (cI, 301, .inl fe)), (gd, .inl (cI, 301, .inl fd)), (gs, .inl (cI, 301, .inl fs)), (gn, .inl (cI, 151, .inl fn)), (gl, .inl (cI, 151, .inl fl))] sz) := by
  refine Met.ofW (cc := cX0_searchedPattern) (maxL := 1) (ret := (some (.object "TextAligner$SignRow"))) (by decide) rfl ?_
  intro p e s m args below meth c s₁ B hml hv
  obtain ⟨rfl, hsz, hP, hK, hD0⟩ := hv
  have hx := B.exec
  have hb := B.bytes
  have hr := B.returns
  have hts := atoms_spec (ws := wsX0_searchedPattern) B.pre
  have hown : s.vm.findClass RX0 = some m.cls := findClass_of_methodNamed B.named
  have hlocks := B.notSynchronized
  subst hsz
  have hD := hD0.self (sz := s.heap.size)
  generalize hAe : va_A [(g, .inr (0, [.ref gp, .ref gt, .ref ge, .ref gd, .ref gs, .int (nI cnt), .ref gn, .ref gl])), (gp, .inr (4, [.ref gpa, .int (nI om)])), (gpa, .inl (cI, 150, .inl op)), (gt, .inr (4, [.ref gta, .int (nI on)])), (gta, .inl (cI, 300, .inl ot)), (ge, .inl (cI, 301, .inl fe)), (gd, .inl (cI, 301, .inl fd)), (gs, .inl (cI, 301, .inl fs)), (gn, .inl (cI, 151, .inl fn)), (gl, .inl (cI, 151, .inl fl))] s.heap.size = A at hD ⊢
  have hA : ∀ q : Nat, s.heap.size ≤ q → A q := fun q h => by rw [← hAe]; exact Or.inr h
  have hl := lv_entry ([.ref g]) (n := 1) (Nat.le_of_ble_eq_true rfl)
  rw [lg_entry_eq]
  generalize (lg_sl ([.ref g]) ++ List.replicate (1 - (lg_sl ([.ref g])).length) Slot.unset).toArray = ls at hl ⊢
  have hl : lv_has ls 1 [(0, .ref g)] := hl
  refine hv_start (A := A) (ws := [(g, .inr (0, [.ref gp, .ref gt, .ref ge, .ref gd, .ref gs, .int (nI cnt), .ref gn, .ref gl])), (gp, .inr (4, [.ref gpa, .int (nI om)])), (gpa, .inl (cI, 150, .inl op)), (gt, .inr (4, [.ref gta, .int (nI on)])), (gta, .inl (cI, 300, .inl ot)), (ge, .inl (cI, 301, .inl fe)), (gd, .inl (cI, 301, .inl fd)), (gs, .inl (cI, 301, .inl fs)), (gn, .inl (cI, 151, .inl fn)), (gl, .inl (cI, 151, .inl fl))]) hP (fun H locs hP hS => ?_)
  have w_0 := hts (.fieldLink RX0 14 "TextAligner$Findings" "pattern" "LTextAligner$SignRow;") (by decide +kernel)
  have i_X0 : ∀ w ∈ wsX00, w ∈ wsX0_searchedPattern := by decide +kernel
  refine lv_aload_n hx hb dX0_searchedPattern_0 rfl (lv_at hl 0 rfl) ?_
  refine va_get (D := D) (ci := 0) (v := .ref gp) (C := RX0) (T := TX0) (N := 8) hx hb hts i_X0 hown hK hP 0 rfl rfl 0 (by decide) w_0 (fun _ h9 => h9) rfl dX0_searchedPattern_1 ?_
  exact fin_r hx hb hr hlocks dX0_searchedPattern_4 hK hS hP hD

set_option maxHeartbeats 4000000 in
set_option maxRecDepth 100000 in
theorem c_X0_searchedText (l : Launch) (D : va_G) (cI cJ cL : ClassId) (sz : Nat) (g : Nat) (gp : Nat) (gpa : Nat) (gt : Nat) (gta : Nat) (ge : Nat) (gd : Nat) (gs : Nat) (gn : Nat) (gl : Nat) (om : Nat) (on : Nat) (cnt : Nat) (op : Nat → Int32) (ot : Nat → Int32) (fe : Nat → Int32) (fd : Nat → Int32) (fs : Nat → Int32) (fn : Nat → Int32) (fl : Nat → Int32)  :
    Met l yX0_searchedText wsX0_searchedText { frames := 0, cells := 0, slots := 0, locals := 0 } (va_Pc [.ref g] (Wd D [(cI, .int), (cJ, .array .int), (cL, .long)] [(g, .inr (0, [.ref gp, .ref gt, .ref ge, .ref gd, .ref gs, .int (nI cnt), .ref gn, .ref gl])), (gp, .inr (4, [.ref gpa, .int (nI om)])), (gpa, .inl (cI, 150, .inl op)), (gt, .inr (4, [.ref gta, .int (nI on)])), (gta, .inl (cI, 300, .inl ot)), (ge, .inl (cI, 301, .inl fe)), (gd, .inl (cI, 301, .inl fd)), (gs, .inl (cI, 301, .inl fs)), (gn, .inl (cI, 151, .inl fn)), (gl, .inl (cI, 151, .inl fl))] sz))
      (va_Qr (fun (_ : Unit) => True) (fun _ a t => a = gt ∧ Wa D [(cI, .int), (cJ, .array .int), (cL, .long)] (va_A [(g, .inr (0, [.ref gp, .ref gt, .ref ge, .ref gd, .ref gs, .int (nI cnt), .ref gn, .ref gl])), (gp, .inr (4, [.ref gpa, .int (nI om)])), (gpa, .inl (cI, 150, .inl op)), (gt, .inr (4, [.ref gta, .int (nI on)])), (gta, .inl (cI, 300, .inl ot)), (ge, .inl (cI, 301, .inl fe)), (gd, .inl (cI, 301, .inl fd)), (gs, .inl (cI, 301, .inl fs)), (gn, .inl (cI, 151, .inl fn)), (gl, .inl (cI, 151, .inl fl))] sz) [(g, .inr (0, [.ref gp, .ref gt, .ref ge, .ref gd, .ref gs, .int (nI cnt), .ref gn, .ref gl])), (gp, .inr (4, [.ref gpa, .int (nI om)])), (gpa, .inl (cI, 150, .inl op)), (gt, .inr (4, [.ref gta, .int (nI on)])), (gta, .inl (cI, 300, .inl ot)), (ge, .inl (cI, 301, .inl fe)), (gd, .inl (cI, 301, .inl fd)), (gs, .inl (cI, 301, .inl fs)), (gn, .inl (cI, 151, .inl fn)), (gl, .inl (cI, 151, .inl fl))] t) (va_A [(g, .inr (0, [.ref gp, .ref gt, .ref ge, .ref gd, .ref gs, .int (nI cnt), .ref gn, .ref gl])), (gp, .inr (4, [.ref gpa, .int (nI om)])), (gpa, .inl (cI, 150, .inl op)), (gt, .inr (4, [.ref gta, .int (nI on)])), (gta, .inl (cI, 300, .inl ot)), (ge, .inl (cI, 301, .inl fe)), (gd, .inl (cI, 301, .inl fd)), (gs, .inl (cI, 301, .inl fs)), (gn, .inl (cI, 151, .inl fn)), (gl, .inl (cI, 151, .inl fl))] sz)) 0 0 (va_A [(g, .inr (0, [.ref gp, .ref gt, .ref ge, .ref gd, .ref gs, .int (nI cnt), .ref gn, .ref gl])), (gp, .inr (4, [.ref gpa, .int (nI om)])), (gpa, .inl (cI, 150, .inl op)), (gt, .inr (4, [.ref gta, .int (nI on)])), (gta, .inl (cI, 300, .inl ot)), (ge, .inl (cI, 301, .inl fe)), (gd, .inl (cI, 301, .inl fd)), (gs, .inl (cI, 301, .inl fs)), (gn, .inl (cI, 151, .inl fn)), (gl, .inl (cI, 151, .inl fl))] sz) := by
  refine Met.ofW (cc := cX0_searchedText) (maxL := 1) (ret := (some (.object "TextAligner$SignRow"))) (by decide) rfl ?_
  intro p e s m args below meth c s₁ B hml hv
  obtain ⟨rfl, hsz, hP, hK, hD0⟩ := hv
  have hx := B.exec
  have hb := B.bytes
  have hr := B.returns
  have hts := atoms_spec (ws := wsX0_searchedText) B.pre
  have hown : s.vm.findClass RX0 = some m.cls := findClass_of_methodNamed B.named
  have hlocks := B.notSynchronized
  subst hsz
  have hD := hD0.self (sz := s.heap.size)
  generalize hAe : va_A [(g, .inr (0, [.ref gp, .ref gt, .ref ge, .ref gd, .ref gs, .int (nI cnt), .ref gn, .ref gl])), (gp, .inr (4, [.ref gpa, .int (nI om)])), (gpa, .inl (cI, 150, .inl op)), (gt, .inr (4, [.ref gta, .int (nI on)])), (gta, .inl (cI, 300, .inl ot)), (ge, .inl (cI, 301, .inl fe)), (gd, .inl (cI, 301, .inl fd)), (gs, .inl (cI, 301, .inl fs)), (gn, .inl (cI, 151, .inl fn)), (gl, .inl (cI, 151, .inl fl))] s.heap.size = A at hD ⊢
  have hA : ∀ q : Nat, s.heap.size ≤ q → A q := fun q h => by rw [← hAe]; exact Or.inr h
  have hl := lv_entry ([.ref g]) (n := 1) (Nat.le_of_ble_eq_true rfl)
  rw [lg_entry_eq]
  generalize (lg_sl ([.ref g]) ++ List.replicate (1 - (lg_sl ([.ref g])).length) Slot.unset).toArray = ls at hl ⊢
  have hl : lv_has ls 1 [(0, .ref g)] := hl
  refine hv_start (A := A) (ws := [(g, .inr (0, [.ref gp, .ref gt, .ref ge, .ref gd, .ref gs, .int (nI cnt), .ref gn, .ref gl])), (gp, .inr (4, [.ref gpa, .int (nI om)])), (gpa, .inl (cI, 150, .inl op)), (gt, .inr (4, [.ref gta, .int (nI on)])), (gta, .inl (cI, 300, .inl ot)), (ge, .inl (cI, 301, .inl fe)), (gd, .inl (cI, 301, .inl fd)), (gs, .inl (cI, 301, .inl fs)), (gn, .inl (cI, 151, .inl fn)), (gl, .inl (cI, 151, .inl fl))]) hP (fun H locs hP hS => ?_)
  have w_0 := hts (.fieldLink RX0 20 "TextAligner$Findings" "text" "LTextAligner$SignRow;") (by decide +kernel)
  have i_X0 : ∀ w ∈ wsX00, w ∈ wsX0_searchedText := by decide +kernel
  refine lv_aload_n hx hb dX0_searchedText_0 rfl (lv_at hl 0 rfl) ?_
  refine va_get (D := D) (ci := 0) (v := .ref gt) (C := RX0) (T := TX0) (N := 8) hx hb hts i_X0 hown hK hP 0 rfl rfl 1 (by decide) w_0 (fun _ h9 => h9) rfl dX0_searchedText_1 ?_
  exact fin_r hx hb hr hlocks dX0_searchedText_4 hK hS hP hD

set_option maxHeartbeats 4000000 in
set_option maxRecDepth 100000 in
theorem c_X5_signsIn (l : Launch) (D : va_G) (cI cJ cL : ClassId) (sz : Nat) (w : Int32)  :
    Met l yX5_signsIn wsX5_signsIn { frames := 0, cells := 0, slots := 0, locals := 0 } (va_Pc [.int w] (Wd D [(cI, .int), (cJ, .array .int), (cL, .long)] [] sz))
      (va_Qi (fun (r : Int32) (_ : Unit) => r = nI (px_nz w 4)) (fun _ => Wa D [(cI, .int), (cJ, .array .int), (cL, .long)] (va_A [] sz) ([])) (va_A [] sz)) 0 0 (va_A [] sz) := by
  refine Met.ofW (cc := cX5_signsIn) (maxL := 3) (ret := (some .int)) (by decide) rfl ?_
  intro p e s m args below meth c s₁ B hml hv
  obtain ⟨rfl, hsz, hP, hK, hD0⟩ := hv
  have hx := B.exec
  have hb := B.bytes
  have hr := B.returns
  have hts := atoms_spec (ws := wsX5_signsIn) B.pre
  have hown : s.vm.findClass RX5 = some m.cls := findClass_of_methodNamed B.named
  have hlocks := B.notSynchronized
  subst hsz
  have hD := hD0.self (sz := s.heap.size)
  generalize hAe : va_A [] s.heap.size = A at hD ⊢
  have hA : ∀ q : Nat, s.heap.size ≤ q → A q := fun q h => by rw [← hAe]; exact Or.inr h
  have hl := lv_entry ([.int w]) (n := 3) (Nat.le_of_ble_eq_true rfl)
  rw [lg_entry_eq]
  generalize (lg_sl ([.int w]) ++ List.replicate (3 - (lg_sl ([.int w])).length) Slot.unset).toArray = ls at hl ⊢
  have hl : lv_has ls 3 [(0, .int w)] := hl
  refine hv_start (A := A) (ws := []) hP (fun H locs hP hS => ?_)
  refine lv_iconst (v := 0) hx hb dX5_signsIn_0 (by decide) ?_
  refine lv_istore_n (lv' := [(1, .int 0), (0, .int w)]) hx hb dX5_signsIn_1 rfl hl (by decide) rfl (fun ls hl => ?_)
  refine lv_iconst (v := 0) hx hb dX5_signsIn_2 (by decide) ?_
  refine lv_istore_n (lv' := [(2, .int 0), (1, .int 0), (0, .int w)]) hx hb dX5_signsIn_3 rfl hl (by decide) rfl (fun ls hl => ?_)
  refine hv_loop (fun zz H locs ls => ∃ (k : Nat), k ≤ 4 ∧ zz = 4 - k ∧ va_P D vwCl [] H ∧ va_D A [] ∧ va_S A s.heap H locs ∧ lv_has ls 3 [(0, .int w), (1, .int (nI (px_nz w k))), (2, .int (nI (8 * k)))]) ?_ _ ⟨0, by omega, rfl, hP, hD, hS, lv_sub hl [2, 1, 0] rfl⟩
  intro zz_4 H locs ls hI ih_4
  obtain ⟨k, hk, hzz_4, hP, hD, hS, hl⟩ := hI
  refine lv_iload_n hx hb dX5_signsIn_4 rfl (lv_at hl 2 rfl) ?_
  refine lv_bipush (v := 32) hx hb dX5_signsIn_5 (by decide) ?_
  refine lv_icmp_ge (tgt := 29) hx hb dX5_signsIn_7 (by decide) (fun c_7 => ?_) (fun c_7 => ?_)
  · have k_7 : 32 ≤ 8 * k := (nI_leI (a := 32) (b := 8 * k) (by omega) (by omega)).mp c_7
    refine lv_iload_n hx hb dX5_signsIn_29 rfl (lv_at hl 1 rfl) ?_
    have e9 : k = 4 := by omega
    subst e9
    exact fin_i () hx hb hr hlocks dX5_signsIn_30 hK hS hP hD rfl
  · have k_7 : ¬ (32 ≤ 8 * k) := fun q => c_7 ((nI_leI (a := 32) (b := 8 * k) (by omega) (by omega)).mpr q)
    refine lv_iload_n hx hb dX5_signsIn_10 rfl (lv_at hl 0 rfl) ?_
    refine lv_iload_n hx hb dX5_signsIn_11 rfl (lv_at hl 2 rfl) ?_
    refine lv_iushr hx hb dX5_signsIn_12 rfl ?_
    refine lv_sipush (v := 255) hx hb dX5_signsIn_13 (by decide) ?_
    refine lv_iand hx hb dX5_signsIn_16 ?_
    refine lv_cv (y := px_sg w k) (rfl) ?_
    refine lv_if_eq (tgt := 23) hx hb dX5_signsIn_17 (by decide) (fun c_17 => ?_) (fun c_17 => ?_)
    · refine lv_iinc (v := nI (8 * (k + 1))) (lv' := [(2, .int (nI (8 * (k + 1)))), (0, .int w), (1, .int (nI (px_nz w k)))]) hx hb dX5_signsIn_23 hl (k := 2) rfl (nI_add (8 * k) 8) (by decide) rfl (fun ls hl => ?_)
      refine lv_goto (tgt := 4) hx hb dX5_signsIn_26 (by decide) ?_
      have e9 : px_nz w (k + 1) = px_nz w k := if_pos c_17
      rw [← e9] at hl
      exact ih_4 (4 - (k + 1)) _ _ _ (by omega) ⟨k + 1, by omega, rfl, hP, hD, hS, lv_sub hl [1, 2, 0] rfl⟩
    · refine lv_iinc (v := nI (px_nz w k + 1)) (lv' := [(1, .int (nI (px_nz w k + 1))), (0, .int w), (2, .int (nI (8 * k)))]) hx hb dX5_signsIn_20 hl (k := 1) rfl (nI_add (px_nz w k) 1) (by decide) rfl (fun ls hl => ?_)
      refine lv_iinc (v := nI (8 * (k + 1))) (lv' := [(2, .int (nI (8 * (k + 1)))), (1, .int (nI (px_nz w k + 1))), (0, .int w)]) hx hb dX5_signsIn_23 hl (k := 2) rfl (nI_add (8 * k) 8) (by decide) rfl (fun ls hl => ?_)
      refine lv_goto (tgt := 4) hx hb dX5_signsIn_26 (by decide) ?_
      have e9 : px_nz w (k + 1) = px_nz w k + 1 := if_neg c_17
      rw [← e9] at hl
      exact ih_4 (4 - (k + 1)) _ _ _ (by omega) ⟨k + 1, by omega, rfl, hP, hD, hS, lv_sub hl [2, 1, 0] rfl⟩

set_option maxHeartbeats 4000000 in
set_option maxRecDepth 100000 in
theorem c_X5_feed_0 (l : Launch) (D : va_G) (cI cJ cL : ClassId) (sz : Nat) (x : Nat) (xp : Nat) (xt : Nat) (so : Nat) (g : Nat) (sc : Nat) (fo : Nat) (sof : Int32) (xpa : Nat) (mm : Nat) (pp : Nat → Int32) (rw : Int32) (wa : Int32) (wb : Int32) (wc : Int32) (wd : Int32) (h0 : rw = 0) (hf : mm + px_fn wa wb wc wd ≤ 150) :
    Met l yX5_feed wsX5_feedB { frames := 1, cells := 0, slots := 0, locals := 23 } (va_Pc [.ref x, .int rw, .int wa, .int wb, .int wc, .int wd] (Wd D [(cI, .int), (cJ, .array .int), (cL, .long)] [(x, .inr (5, [.ref xp, .ref xt, .ref so, .ref g, .ref sc, .ref fo, .int sof])), (xp, .inr (4, [.ref xpa, .int (nI mm)])), (xpa, .inl (cI, 150, .inl pp))] sz))
      (va_Qi (fun (r : Int32) (_ : Unit) => r = nI ((px_f wa wb wc wd (mm, pp)).1)) (fun _ => Wa D [(cI, .int), (cJ, .array .int), (cL, .long)] (va_A [(x, .inr (5, [.ref xp, .ref xt, .ref so, .ref g, .ref sc, .ref fo, .int sof])), (xp, .inr (4, [.ref xpa, .int (nI mm)])), (xpa, .inl (cI, 150, .inl pp))] sz) ([(x, .inr (5, [.ref xp, .ref xt, .ref so, .ref g, .ref sc, .ref fo, .int sof])), (xp, .inr (4, [.ref xpa, .int (nI ((px_f wa wb wc wd (mm, pp)).1))])), (xpa, .inl (cI, 150, .inl ((px_f wa wb wc wd (mm, pp)).2)))])) (va_A [(x, .inr (5, [.ref xp, .ref xt, .ref so, .ref g, .ref sc, .ref fo, .int sof])), (xp, .inr (4, [.ref xpa, .int (nI mm)])), (xpa, .inl (cI, 150, .inl pp))] sz)) 0 0 (va_A [(x, .inr (5, [.ref xp, .ref xt, .ref so, .ref g, .ref sc, .ref fo, .int sof])), (xp, .inr (4, [.ref xpa, .int (nI mm)])), (xpa, .inl (cI, 150, .inl pp))] sz) := by
  refine Met.ofW (cc := cX5_feed) (maxL := 7) (ret := (some .int)) (by decide) rfl ?_
  intro p e s m args below meth c s₁ B hml hv
  obtain ⟨rfl, hsz, hP, hK, hD0⟩ := hv
  have hx := B.exec
  have hb := B.bytes
  have hr := B.returns
  have hts := atoms_spec (ws := wsX5_feedB) B.pre
  have hown : s.vm.findClass RX5 = some m.cls := findClass_of_methodNamed B.named
  have hlocks := B.notSynchronized
  subst hsz
  have hD := hD0.self (sz := s.heap.size)
  generalize hAe : va_A [(x, .inr (5, [.ref xp, .ref xt, .ref so, .ref g, .ref sc, .ref fo, .int sof])), (xp, .inr (4, [.ref xpa, .int (nI mm)])), (xpa, .inl (cI, 150, .inl pp))] s.heap.size = A at hD ⊢
  have hA : ∀ q : Nat, s.heap.size ≤ q → A q := fun q h => by rw [← hAe]; exact Or.inr h
  have hl := lv_entry ([.ref x, .int rw, .int wa, .int wb, .int wc, .int wd]) (n := 7) (Nat.le_of_ble_eq_true rfl)
  rw [lg_entry_eq]
  generalize (lg_sl ([.ref x, .int rw, .int wa, .int wb, .int wc, .int wd]) ++ List.replicate (7 - (lg_sl ([.ref x, .int rw, .int wa, .int wb, .int wc, .int wd])).length) Slot.unset).toArray = ls at hl ⊢
  have hl : lv_has ls 7 [(0, .ref x), (1, .int rw), (2, .int wa), (3, .int wb), (4, .int wc), (5, .int wd)] := hl
  refine hv_start (A := A) (ws := [(x, .inr (5, [.ref xp, .ref xt, .ref so, .ref g, .ref sc, .ref fo, .int sof])), (xp, .inr (4, [.ref xpa, .int (nI mm)])), (xpa, .inl (cI, 150, .inl pp))]) hP (fun H locs hP hS => ?_)
  have w_0 := hts (.fieldLink RX5 14 "TextAligner" "pattern" "LTextAligner$SignRow;") (by decide +kernel)
  have i_X5 : ∀ w ∈ wsX50, w ∈ wsX5_feedB := by decide +kernel
  have fn9 : px_fn wa wb wc wd = px_nz wa 4 + px_nz wb 4 + px_nz wc 4 + px_nz wd 4 := rfl
  have z0 := px_nz_le wa 4
  have z1 := px_nz_le wb 4
  have z2 := px_nz_le wc 4
  have z3 := px_nz_le wd 4
  refine lv_iload_n hx hb dX5_feed_0 rfl (lv_at hl 1 rfl) ?_
  refine lv_if_eq (tgt := 19) hx hb dX5_feed_1 (by decide) (fun c_1 => ?_) (fun c_1 => ?_)
  · refine lv_iload_n hx hb dX5_feed_19 rfl (lv_at hl 1 rfl) ?_
    refine lv_if_ne (tgt := 30) hx hb dX5_feed_20 (by decide) (fun c_20 => ?_) (fun c_20 => ?_)
    · exfalso; grind
    · refine lv_aload_n hx hb dX5_feed_23 rfl (lv_at hl 0 rfl) ?_
      refine va_get (D := D) (ci := 5) (v := .ref xp) (C := RX5) (T := TX5) (N := 7) hx hb hts i_X5 hown hK hP 0 rfl rfl 0 (by decide) w_0 (fun _ h9 => h9) rfl dX5_feed_24 ?_
      refine lv_goto (tgt := 34) hx hb dX5_feed_27 (by decide) ?_
      refine lv_astore (lv' := [(6, .ref xp), (0, .ref x), (1, .int rw), (2, .int wa), (3, .int wb), (4, .int wc), (5, .int wd)]) hx hb dX5_feed_34 hl (by decide) rfl (fun ls hl => ?_)
      refine lv_iload_n hx hb dX5_feed_36 rfl (lv_at hl 3 rfl) ?_
      have fr := fr_x (wc := []) (wr := [(x, .inr (5, [.ref xp, .ref xt, .ref so, .ref g, .ref sc, .ref fo, .int sof])), (xp, .inr (4, [.ref xpa, .int (nI mm)])), (xpa, .inl (cI, 150, .inl pp))]) hP hD hS hA [] [0, 1, 2] rfl rfl (by decide) (by decide) (by decide)
      refine cs_i (J := fun _ => [(x, .inr (5, [.ref xp, .ref xt, .ref so, .ref g, .ref sc, .ref fo, .int sof])), (xp, .inr (4, [.ref xpa, .int (nI mm)])), (xpa, .inl (cI, 150, .inl pp))]) (As := [.int wa]) (rest := []) ⟨hx, hb, hml, hown, hts⟩ (c_X5_signsIn l D cI cJ cL H.size wa ) (va_cwS 1 hts gX5_feedB_X5_signsIn rfl rfl rfl (by decide +kernel) ⟨Nat.le_of_ble_eq_true rfl, Nat.le_of_ble_eq_true rfl⟩) hK fr.1 fr.2.1 fr.2.2.1 (fun H1 u hk h1 h2 => ⟨(fr.2.2.2 _ H1 hk h1 h2).1.sub [0, 1, 2] rfl, (fr.2.2.2 _ H1 hk h1 h2).2.sub [0, 1, 2] (by decide) rfl⟩) hS rfl hl.1 rfl (Nat.le_of_ble_eq_true rfl) dX5_feed_37 ⟨Nat.zero_le _, Nat.zero_le _⟩ (fun r_2 u_1 H locs hw hP hD hS => ?_)
      subst hw
      refine lv_iload_n hx hb dX5_feed_40 rfl (lv_at hl 4 rfl) ?_
      have fr := fr_x (wc := []) (wr := [(x, .inr (5, [.ref xp, .ref xt, .ref so, .ref g, .ref sc, .ref fo, .int sof])), (xp, .inr (4, [.ref xpa, .int (nI mm)])), (xpa, .inl (cI, 150, .inl pp))]) hP hD hS hA [] [0, 1, 2] rfl rfl (by decide) (by decide) (by decide)
      refine cs_i (J := fun _ => [(x, .inr (5, [.ref xp, .ref xt, .ref so, .ref g, .ref sc, .ref fo, .int sof])), (xp, .inr (4, [.ref xpa, .int (nI mm)])), (xpa, .inl (cI, 150, .inl pp))]) (As := [.int wb]) (rest := [.int (nI (px_nz wa 4))]) ⟨hx, hb, hml, hown, hts⟩ (c_X5_signsIn l D cI cJ cL H.size wb ) (va_cwS 1 hts gX5_feedB_X5_signsIn rfl rfl rfl (by decide +kernel) ⟨Nat.le_of_ble_eq_true rfl, Nat.le_of_ble_eq_true rfl⟩) hK fr.1 fr.2.1 fr.2.2.1 (fun H1 u hk h1 h2 => ⟨(fr.2.2.2 _ H1 hk h1 h2).1.sub [0, 1, 2] rfl, (fr.2.2.2 _ H1 hk h1 h2).2.sub [0, 1, 2] (by decide) rfl⟩) hS rfl hl.1 rfl (Nat.le_of_ble_eq_true rfl) dX5_feed_41 ⟨Nat.zero_le _, Nat.zero_le _⟩ (fun r_4 u_3 H locs hw hP hD hS => ?_)
      subst hw
      refine lv_iadd hx hb dX5_feed_44 ?_
      refine lv_cv (y := nI (px_nz wa 4 + (px_nz wb 4))) (nI_add (px_nz wa 4) (px_nz wb 4)) ?_
      refine lv_iload hx hb dX5_feed_45 (lv_at hl 5 rfl) ?_
      have fr := fr_x (wc := []) (wr := [(x, .inr (5, [.ref xp, .ref xt, .ref so, .ref g, .ref sc, .ref fo, .int sof])), (xp, .inr (4, [.ref xpa, .int (nI mm)])), (xpa, .inl (cI, 150, .inl pp))]) hP hD hS hA [] [0, 1, 2] rfl rfl (by decide) (by decide) (by decide)
      refine cs_i (J := fun _ => [(x, .inr (5, [.ref xp, .ref xt, .ref so, .ref g, .ref sc, .ref fo, .int sof])), (xp, .inr (4, [.ref xpa, .int (nI mm)])), (xpa, .inl (cI, 150, .inl pp))]) (As := [.int wc]) (rest := [.int (nI (px_nz wa 4 + (px_nz wb 4)))]) ⟨hx, hb, hml, hown, hts⟩ (c_X5_signsIn l D cI cJ cL H.size wc ) (va_cwS 1 hts gX5_feedB_X5_signsIn rfl rfl rfl (by decide +kernel) ⟨Nat.le_of_ble_eq_true rfl, Nat.le_of_ble_eq_true rfl⟩) hK fr.1 fr.2.1 fr.2.2.1 (fun H1 u hk h1 h2 => ⟨(fr.2.2.2 _ H1 hk h1 h2).1.sub [0, 1, 2] rfl, (fr.2.2.2 _ H1 hk h1 h2).2.sub [0, 1, 2] (by decide) rfl⟩) hS rfl hl.1 rfl (Nat.le_of_ble_eq_true rfl) dX5_feed_47 ⟨Nat.zero_le _, Nat.zero_le _⟩ (fun r_6 u_5 H locs hw hP hD hS => ?_)
      subst hw
      refine lv_iadd hx hb dX5_feed_50 ?_
      refine lv_cv (y := nI (px_nz wa 4 + (px_nz wb 4) + (px_nz wc 4))) (nI_add (px_nz wa 4 + (px_nz wb 4)) (px_nz wc 4)) ?_
      refine lv_iload hx hb dX5_feed_51 (lv_at hl 6 rfl) ?_
      have fr := fr_x (wc := []) (wr := [(x, .inr (5, [.ref xp, .ref xt, .ref so, .ref g, .ref sc, .ref fo, .int sof])), (xp, .inr (4, [.ref xpa, .int (nI mm)])), (xpa, .inl (cI, 150, .inl pp))]) hP hD hS hA [] [0, 1, 2] rfl rfl (by decide) (by decide) (by decide)
      refine cs_i (J := fun _ => [(x, .inr (5, [.ref xp, .ref xt, .ref so, .ref g, .ref sc, .ref fo, .int sof])), (xp, .inr (4, [.ref xpa, .int (nI mm)])), (xpa, .inl (cI, 150, .inl pp))]) (As := [.int wd]) (rest := [.int (nI (px_nz wa 4 + (px_nz wb 4) + (px_nz wc 4)))]) ⟨hx, hb, hml, hown, hts⟩ (c_X5_signsIn l D cI cJ cL H.size wd ) (va_cwS 1 hts gX5_feedB_X5_signsIn rfl rfl rfl (by decide +kernel) ⟨Nat.le_of_ble_eq_true rfl, Nat.le_of_ble_eq_true rfl⟩) hK fr.1 fr.2.1 fr.2.2.1 (fun H1 u hk h1 h2 => ⟨(fr.2.2.2 _ H1 hk h1 h2).1.sub [0, 1, 2] rfl, (fr.2.2.2 _ H1 hk h1 h2).2.sub [0, 1, 2] (by decide) rfl⟩) hS rfl hl.1 rfl (Nat.le_of_ble_eq_true rfl) dX5_feed_53 ⟨Nat.zero_le _, Nat.zero_le _⟩ (fun r_8 u_7 H locs hw hP hD hS => ?_)
      subst hw
      refine lv_iadd hx hb dX5_feed_56 ?_
      refine lv_cv (y := nI (px_nz wa 4 + (px_nz wb 4) + (px_nz wc 4) + (px_nz wd 4))) (nI_add (px_nz wa 4 + (px_nz wb 4) + (px_nz wc 4)) (px_nz wd 4)) ?_
      refine lv_aload hx hb dX5_feed_57 (lv_at hl 0 rfl) ?_
      have fr := fr_x (wc := [(xp, .inr (4, [.ref xpa, .int (nI mm)])), (xpa, .inl (cI, 150, .inl pp))]) (wr := [(x, .inr (5, [.ref xp, .ref xt, .ref so, .ref g, .ref sc, .ref fo, .int sof]))]) hP hD hS hA [1, 2] [0] rfl rfl (by decide) (by decide) (by decide)
      refine cv_i (J := fun _ => [(x, .inr (5, [.ref xp, .ref xt, .ref so, .ref g, .ref sc, .ref fo, .int sof])), (xp, .inr (4, [.ref xpa, .int (nI mm)])), (xpa, .inl (cI, 150, .inl pp))]) (As := []) (rest := [.int (nI (px_nz wa 4 + (px_nz wb 4) + (px_nz wc 4) + (px_nz wd 4)))]) (q0 := 0) (ci := 4) ⟨hx, hb, hml, hown, hts⟩ (c_X4_room l D cI cJ cL H.size xp xpa 150 mm pp (by omega)) (cwV 0 hts gX5_feedB_X4_room rfl rfl rfl (by decide +kernel) ⟨Nat.le_of_ble_eq_true rfl, Nat.le_of_ble_eq_true rfl⟩) hK fr.1 fr.2.1 fr.2.2.1 (fun H1 u hk h1 h2 => ⟨(fr.2.2.2 _ H1 hk h1 h2).1.sub [0, 1, 2] rfl, (fr.2.2.2 _ H1 hk h1 h2).2.sub [0, 1, 2] (by decide) rfl⟩) hS rfl rfl rfl rfl hl.1 rfl (Nat.le_of_ble_eq_true rfl) dX5_feed_59 ⟨Nat.zero_le _, Nat.zero_le _⟩ (fun r_10 u_9 H locs hw hP hD hS => ?_)
      subst hw
      refine lv_icmp_le (tgt := 75) hx hb dX5_feed_62 (by decide) (fun c_62 => ?_) (fun c_62 => ?_)
      · have k_62 : px_nz wa 4 + (px_nz wb 4) + (px_nz wc 4) + (px_nz wd 4) ≤ 150 - mm := (nI_leI (a := px_nz wa 4 + (px_nz wb 4) + (px_nz wc 4) + (px_nz wd 4)) (b := 150 - mm) (by omega) (by omega)).mp c_62
        refine lv_aload hx hb dX5_feed_75 (lv_at hl 0 rfl) ?_
        refine lv_iload_n hx hb dX5_feed_77 rfl (lv_at hl 3 rfl) ?_
        have fr := fr_x (wc := [(xp, .inr (4, [.ref xpa, .int (nI mm)])), (xpa, .inl (cI, 150, .inl pp))]) (wr := [(x, .inr (5, [.ref xp, .ref xt, .ref so, .ref g, .ref sc, .ref fo, .int sof]))]) hP hD hS hA [1, 2] [0] rfl rfl (by decide) (by decide) (by decide)
        refine cv_v (J := fun _ => [(x, .inr (5, [.ref xp, .ref xt, .ref so, .ref g, .ref sc, .ref fo, .int sof])), (xp, .inr (4, [.ref xpa, .int (nI ((px_pw wa (mm, pp) 4).1))])), (xpa, .inl (cI, 150, .inl ((px_pw wa (mm, pp) 4).2)))]) (As := [.int wa]) (rest := []) (q0 := 0) (ci := 4) ⟨hx, hb, hml, hown, hts⟩ (c_X4_takeSignsOf l D cI cJ cL H.size xp xpa 150 mm pp wa (by omega) (by omega)) (cwV 1 hts gX5_feedB_X4_takeSignsOf rfl rfl rfl (by decide +kernel) ⟨Nat.le_of_ble_eq_true rfl, Nat.le_of_ble_eq_true rfl⟩) hK fr.1 fr.2.1 fr.2.2.1 (fun H1 u hk h1 h2 => ⟨(fr.2.2.2 _ H1 hk h1 h2).1.sub [0, 1, 2] rfl, (fr.2.2.2 _ H1 hk h1 h2).2.sub [0, 1, 2] (by decide) rfl⟩) hS rfl rfl rfl rfl hl.1 rfl (Nat.le_of_ble_eq_true rfl) dX5_feed_78 ⟨Nat.zero_le _, Nat.zero_le _⟩ (fun u_11 H locs hw hP hD hS => ?_)
        refine lv_aload hx hb dX5_feed_81 (lv_at hl 0 rfl) ?_
        refine lv_iload_n hx hb dX5_feed_83 rfl (lv_at hl 4 rfl) ?_
        have n1 : (px_pw wa (mm, pp) 4).1 = mm + px_nz wa 4 := px_pw_n wa (mm, pp) 4
        have fr := fr_x (wc := [(xp, .inr (4, [.ref xpa, .int (nI ((px_pw wa (mm, pp) 4).1))])), (xpa, .inl (cI, 150, .inl ((px_pw wa (mm, pp) 4).2)))]) (wr := [(x, .inr (5, [.ref xp, .ref xt, .ref so, .ref g, .ref sc, .ref fo, .int sof]))]) hP hD hS hA [1, 2] [0] rfl rfl (by decide) (by decide) (by decide)
        refine cv_v (J := fun _ => [(x, .inr (5, [.ref xp, .ref xt, .ref so, .ref g, .ref sc, .ref fo, .int sof])), (xp, .inr (4, [.ref xpa, .int (nI ((px_pw wb (((px_pw wa (mm, pp) 4).1), ((px_pw wa (mm, pp) 4).2)) 4).1))])), (xpa, .inl (cI, 150, .inl ((px_pw wb (((px_pw wa (mm, pp) 4).1), ((px_pw wa (mm, pp) 4).2)) 4).2)))]) (As := [.int wb]) (rest := []) (q0 := 0) (ci := 4) ⟨hx, hb, hml, hown, hts⟩ (c_X4_takeSignsOf l D cI cJ cL H.size xp xpa 150 ((px_pw wa (mm, pp) 4).1) ((px_pw wa (mm, pp) 4).2) wb (by omega) (by omega)) (cwV 1 hts gX5_feedB_X4_takeSignsOf rfl rfl rfl (by decide +kernel) ⟨Nat.le_of_ble_eq_true rfl, Nat.le_of_ble_eq_true rfl⟩) hK fr.1 fr.2.1 fr.2.2.1 (fun H1 u hk h1 h2 => ⟨(fr.2.2.2 _ H1 hk h1 h2).1.sub [0, 1, 2] rfl, (fr.2.2.2 _ H1 hk h1 h2).2.sub [0, 1, 2] (by decide) rfl⟩) hS rfl rfl rfl rfl hl.1 rfl (Nat.le_of_ble_eq_true rfl) dX5_feed_84 ⟨Nat.zero_le _, Nat.zero_le _⟩ (fun u_13 H locs hw hP hD hS => ?_)
        have hP : va_P D vwCl [(x, .inr (5, [.ref xp, .ref xt, .ref so, .ref g, .ref sc, .ref fo, .int sof])), (xp, .inr (4, [.ref xpa, .int (nI ((px_pw wb (px_pw wa (mm, pp) 4) 4).1))])), (xpa, .inl (cI, 150, .inl ((px_pw wb (px_pw wa (mm, pp) 4) 4).2)))] H := hP
        have hD : va_D A [(x, .inr (5, [.ref xp, .ref xt, .ref so, .ref g, .ref sc, .ref fo, .int sof])), (xp, .inr (4, [.ref xpa, .int (nI ((px_pw wb (px_pw wa (mm, pp) 4) 4).1))])), (xpa, .inl (cI, 150, .inl ((px_pw wb (px_pw wa (mm, pp) 4) 4).2)))] := hD
        refine lv_aload hx hb dX5_feed_87 (lv_at hl 0 rfl) ?_
        refine lv_iload hx hb dX5_feed_89 (lv_at hl 5 rfl) ?_
        have n2 : (px_pw wb (px_pw wa (mm, pp) 4) 4).1 = (px_pw wa (mm, pp) 4).1 + px_nz wb 4 := px_pw_n wb (px_pw wa (mm, pp) 4) 4
        have fr := fr_x (wc := [(xp, .inr (4, [.ref xpa, .int (nI ((px_pw wb (px_pw wa (mm, pp) 4) 4).1))])), (xpa, .inl (cI, 150, .inl ((px_pw wb (px_pw wa (mm, pp) 4) 4).2)))]) (wr := [(x, .inr (5, [.ref xp, .ref xt, .ref so, .ref g, .ref sc, .ref fo, .int sof]))]) hP hD hS hA [1, 2] [0] rfl rfl (by decide) (by decide) (by decide)
        refine cv_v (J := fun _ => [(x, .inr (5, [.ref xp, .ref xt, .ref so, .ref g, .ref sc, .ref fo, .int sof])), (xp, .inr (4, [.ref xpa, .int (nI ((px_pw wc (((px_pw wb (px_pw wa (mm, pp) 4) 4).1), ((px_pw wb (px_pw wa (mm, pp) 4) 4).2)) 4).1))])), (xpa, .inl (cI, 150, .inl ((px_pw wc (((px_pw wb (px_pw wa (mm, pp) 4) 4).1), ((px_pw wb (px_pw wa (mm, pp) 4) 4).2)) 4).2)))]) (As := [.int wc]) (rest := []) (q0 := 0) (ci := 4) ⟨hx, hb, hml, hown, hts⟩ (c_X4_takeSignsOf l D cI cJ cL H.size xp xpa 150 ((px_pw wb (px_pw wa (mm, pp) 4) 4).1) ((px_pw wb (px_pw wa (mm, pp) 4) 4).2) wc (by omega) (by omega)) (cwV 1 hts gX5_feedB_X4_takeSignsOf rfl rfl rfl (by decide +kernel) ⟨Nat.le_of_ble_eq_true rfl, Nat.le_of_ble_eq_true rfl⟩) hK fr.1 fr.2.1 fr.2.2.1 (fun H1 u hk h1 h2 => ⟨(fr.2.2.2 _ H1 hk h1 h2).1.sub [0, 1, 2] rfl, (fr.2.2.2 _ H1 hk h1 h2).2.sub [0, 1, 2] (by decide) rfl⟩) hS rfl rfl rfl rfl hl.1 rfl (Nat.le_of_ble_eq_true rfl) dX5_feed_91 ⟨Nat.zero_le _, Nat.zero_le _⟩ (fun u_15 H locs hw hP hD hS => ?_)
        have hP : va_P D vwCl [(x, .inr (5, [.ref xp, .ref xt, .ref so, .ref g, .ref sc, .ref fo, .int sof])), (xp, .inr (4, [.ref xpa, .int (nI ((px_pw wc (px_pw wb (px_pw wa (mm, pp) 4) 4) 4).1))])), (xpa, .inl (cI, 150, .inl ((px_pw wc (px_pw wb (px_pw wa (mm, pp) 4) 4) 4).2)))] H := hP
        have hD : va_D A [(x, .inr (5, [.ref xp, .ref xt, .ref so, .ref g, .ref sc, .ref fo, .int sof])), (xp, .inr (4, [.ref xpa, .int (nI ((px_pw wc (px_pw wb (px_pw wa (mm, pp) 4) 4) 4).1))])), (xpa, .inl (cI, 150, .inl ((px_pw wc (px_pw wb (px_pw wa (mm, pp) 4) 4) 4).2)))] := hD
        refine lv_aload hx hb dX5_feed_94 (lv_at hl 0 rfl) ?_
        refine lv_iload hx hb dX5_feed_96 (lv_at hl 6 rfl) ?_
        have n3 : (px_pw wc (px_pw wb (px_pw wa (mm, pp) 4) 4) 4).1 = (px_pw wb (px_pw wa (mm, pp) 4) 4).1 + px_nz wc 4 := px_pw_n wc (px_pw wb (px_pw wa (mm, pp) 4) 4) 4
        have fr := fr_x (wc := [(xp, .inr (4, [.ref xpa, .int (nI ((px_pw wc (px_pw wb (px_pw wa (mm, pp) 4) 4) 4).1))])), (xpa, .inl (cI, 150, .inl ((px_pw wc (px_pw wb (px_pw wa (mm, pp) 4) 4) 4).2)))]) (wr := [(x, .inr (5, [.ref xp, .ref xt, .ref so, .ref g, .ref sc, .ref fo, .int sof]))]) hP hD hS hA [1, 2] [0] rfl rfl (by decide) (by decide) (by decide)
        refine cv_v (J := fun _ => [(x, .inr (5, [.ref xp, .ref xt, .ref so, .ref g, .ref sc, .ref fo, .int sof])), (xp, .inr (4, [.ref xpa, .int (nI ((px_pw wd (((px_pw wc (px_pw wb (px_pw wa (mm, pp) 4) 4) 4).1), ((px_pw wc (px_pw wb (px_pw wa (mm, pp) 4) 4) 4).2)) 4).1))])), (xpa, .inl (cI, 150, .inl ((px_pw wd (((px_pw wc (px_pw wb (px_pw wa (mm, pp) 4) 4) 4).1), ((px_pw wc (px_pw wb (px_pw wa (mm, pp) 4) 4) 4).2)) 4).2)))]) (As := [.int wd]) (rest := []) (q0 := 0) (ci := 4) ⟨hx, hb, hml, hown, hts⟩ (c_X4_takeSignsOf l D cI cJ cL H.size xp xpa 150 ((px_pw wc (px_pw wb (px_pw wa (mm, pp) 4) 4) 4).1) ((px_pw wc (px_pw wb (px_pw wa (mm, pp) 4) 4) 4).2) wd (by omega) (by omega)) (cwV 1 hts gX5_feedB_X4_takeSignsOf rfl rfl rfl (by decide +kernel) ⟨Nat.le_of_ble_eq_true rfl, Nat.le_of_ble_eq_true rfl⟩) hK fr.1 fr.2.1 fr.2.2.1 (fun H1 u hk h1 h2 => ⟨(fr.2.2.2 _ H1 hk h1 h2).1.sub [0, 1, 2] rfl, (fr.2.2.2 _ H1 hk h1 h2).2.sub [0, 1, 2] (by decide) rfl⟩) hS rfl rfl rfl rfl hl.1 rfl (Nat.le_of_ble_eq_true rfl) dX5_feed_98 ⟨Nat.zero_le _, Nat.zero_le _⟩ (fun u_17 H locs hw hP hD hS => ?_)
        have hP : va_P D vwCl [(x, .inr (5, [.ref xp, .ref xt, .ref so, .ref g, .ref sc, .ref fo, .int sof])), (xp, .inr (4, [.ref xpa, .int (nI ((px_pw wd (px_pw wc (px_pw wb (px_pw wa (mm, pp) 4) 4) 4) 4).1))])), (xpa, .inl (cI, 150, .inl ((px_pw wd (px_pw wc (px_pw wb (px_pw wa (mm, pp) 4) 4) 4) 4).2)))] H := hP
        have hD : va_D A [(x, .inr (5, [.ref xp, .ref xt, .ref so, .ref g, .ref sc, .ref fo, .int sof])), (xp, .inr (4, [.ref xpa, .int (nI ((px_pw wd (px_pw wc (px_pw wb (px_pw wa (mm, pp) 4) 4) 4) 4).1))])), (xpa, .inl (cI, 150, .inl ((px_pw wd (px_pw wc (px_pw wb (px_pw wa (mm, pp) 4) 4) 4) 4).2)))] := hD
        refine lv_aload hx hb dX5_feed_101 (lv_at hl 0 rfl) ?_
        have fr := fr_x (wc := [(xp, .inr (4, [.ref xpa, .int (nI ((px_pw wd (px_pw wc (px_pw wb (px_pw wa (mm, pp) 4) 4) 4) 4).1))])), (xpa, .inl (cI, 150, .inl ((px_pw wd (px_pw wc (px_pw wb (px_pw wa (mm, pp) 4) 4) 4) 4).2)))]) (wr := [(x, .inr (5, [.ref xp, .ref xt, .ref so, .ref g, .ref sc, .ref fo, .int sof]))]) hP hD hS hA [1, 2] [0] rfl rfl (by decide) (by decide) (by decide)
        refine cv_i (J := fun _ => [(x, .inr (5, [.ref xp, .ref xt, .ref so, .ref g, .ref sc, .ref fo, .int sof])), (xp, .inr (4, [.ref xpa, .int (nI ((px_pw wd (px_pw wc (px_pw wb (px_pw wa (mm, pp) 4) 4) 4) 4).1))])), (xpa, .inl (cI, 150, .inl ((px_pw wd (px_pw wc (px_pw wb (px_pw wa (mm, pp) 4) 4) 4) 4).2)))]) (As := []) (rest := []) (q0 := 0) (ci := 4) ⟨hx, hb, hml, hown, hts⟩ (c_X4_size l D cI cJ cL H.size xp xpa 150 ((px_pw wd (px_pw wc (px_pw wb (px_pw wa (mm, pp) 4) 4) 4) 4).1) ((px_pw wd (px_pw wc (px_pw wb (px_pw wa (mm, pp) 4) 4) 4) 4).2) ) (cwV 0 hts gX5_feedB_X4_size rfl rfl rfl (by decide +kernel) ⟨Nat.le_of_ble_eq_true rfl, Nat.le_of_ble_eq_true rfl⟩) hK fr.1 fr.2.1 fr.2.2.1 (fun H1 u hk h1 h2 => ⟨(fr.2.2.2 _ H1 hk h1 h2).1.sub [0, 1, 2] rfl, (fr.2.2.2 _ H1 hk h1 h2).2.sub [0, 1, 2] (by decide) rfl⟩) hS rfl rfl rfl rfl hl.1 rfl (Nat.le_of_ble_eq_true rfl) dX5_feed_103 ⟨Nat.zero_le _, Nat.zero_le _⟩ (fun r_20 u_19 H locs hw hP hD hS => ?_)
        subst hw
        exact fin_i () hx hb hr hlocks dX5_feed_106 hK hS hP hD rfl
      · have k_62 : ¬ (px_nz wa 4 + (px_nz wb 4) + (px_nz wc 4) + (px_nz wd 4) ≤ 150 - mm) := fun q => c_62 ((nI_leI (a := px_nz wa 4 + (px_nz wb 4) + (px_nz wc 4) + (px_nz wd 4)) (b := 150 - mm) (by omega) (by omega)).mpr q)
        exfalso; grind
  · exfalso; grind

set_option maxHeartbeats 4000000 in
set_option maxRecDepth 100000 in
theorem c_X5_feed_1 (l : Launch) (D : va_G) (cI cJ cL : ClassId) (sz : Nat) (x : Nat) (xp : Nat) (xt : Nat) (so : Nat) (g : Nat) (sc : Nat) (fo : Nat) (sof : Int32) (xta : Nat) (nn : Nat) (tt : Nat → Int32) (rw : Int32) (wa : Int32) (wb : Int32) (wc : Int32) (wd : Int32) (h0 : rw = 1) (hf : nn + px_fn wa wb wc wd ≤ 300) :
    Met l yX5_feed wsX5_feedB { frames := 1, cells := 0, slots := 0, locals := 23 } (va_Pc [.ref x, .int rw, .int wa, .int wb, .int wc, .int wd] (Wd D [(cI, .int), (cJ, .array .int), (cL, .long)] [(x, .inr (5, [.ref xp, .ref xt, .ref so, .ref g, .ref sc, .ref fo, .int sof])), (xt, .inr (4, [.ref xta, .int (nI nn)])), (xta, .inl (cI, 300, .inl tt))] sz))
      (va_Qi (fun (r : Int32) (_ : Unit) => r = nI ((px_f wa wb wc wd (nn, tt)).1)) (fun _ => Wa D [(cI, .int), (cJ, .array .int), (cL, .long)] (va_A [(x, .inr (5, [.ref xp, .ref xt, .ref so, .ref g, .ref sc, .ref fo, .int sof])), (xt, .inr (4, [.ref xta, .int (nI nn)])), (xta, .inl (cI, 300, .inl tt))] sz) ([(x, .inr (5, [.ref xp, .ref xt, .ref so, .ref g, .ref sc, .ref fo, .int sof])), (xt, .inr (4, [.ref xta, .int (nI ((px_f wa wb wc wd (nn, tt)).1))])), (xta, .inl (cI, 300, .inl ((px_f wa wb wc wd (nn, tt)).2)))])) (va_A [(x, .inr (5, [.ref xp, .ref xt, .ref so, .ref g, .ref sc, .ref fo, .int sof])), (xt, .inr (4, [.ref xta, .int (nI nn)])), (xta, .inl (cI, 300, .inl tt))] sz)) 0 0 (va_A [(x, .inr (5, [.ref xp, .ref xt, .ref so, .ref g, .ref sc, .ref fo, .int sof])), (xt, .inr (4, [.ref xta, .int (nI nn)])), (xta, .inl (cI, 300, .inl tt))] sz) := by
  refine Met.ofW (cc := cX5_feed) (maxL := 7) (ret := (some .int)) (by decide) rfl ?_
  intro p e s m args below meth c s₁ B hml hv
  obtain ⟨rfl, hsz, hP, hK, hD0⟩ := hv
  have hx := B.exec
  have hb := B.bytes
  have hr := B.returns
  have hts := atoms_spec (ws := wsX5_feedB) B.pre
  have hown : s.vm.findClass RX5 = some m.cls := findClass_of_methodNamed B.named
  have hlocks := B.notSynchronized
  subst hsz
  have hD := hD0.self (sz := s.heap.size)
  generalize hAe : va_A [(x, .inr (5, [.ref xp, .ref xt, .ref so, .ref g, .ref sc, .ref fo, .int sof])), (xt, .inr (4, [.ref xta, .int (nI nn)])), (xta, .inl (cI, 300, .inl tt))] s.heap.size = A at hD ⊢
  have hA : ∀ q : Nat, s.heap.size ≤ q → A q := fun q h => by rw [← hAe]; exact Or.inr h
  have hl := lv_entry ([.ref x, .int rw, .int wa, .int wb, .int wc, .int wd]) (n := 7) (Nat.le_of_ble_eq_true rfl)
  rw [lg_entry_eq]
  generalize (lg_sl ([.ref x, .int rw, .int wa, .int wb, .int wc, .int wd]) ++ List.replicate (7 - (lg_sl ([.ref x, .int rw, .int wa, .int wb, .int wc, .int wd])).length) Slot.unset).toArray = ls at hl ⊢
  have hl : lv_has ls 7 [(0, .ref x), (1, .int rw), (2, .int wa), (3, .int wb), (4, .int wc), (5, .int wd)] := hl
  refine hv_start (A := A) (ws := [(x, .inr (5, [.ref xp, .ref xt, .ref so, .ref g, .ref sc, .ref fo, .int sof])), (xt, .inr (4, [.ref xta, .int (nI nn)])), (xta, .inl (cI, 300, .inl tt))]) hP (fun H locs hP hS => ?_)
  have w_0 := hts (.fieldLink RX5 18 "TextAligner" "text" "LTextAligner$SignRow;") (by decide +kernel)
  have i_X5 : ∀ w ∈ wsX50, w ∈ wsX5_feedB := by decide +kernel
  have fn9 : px_fn wa wb wc wd = px_nz wa 4 + px_nz wb 4 + px_nz wc 4 + px_nz wd 4 := rfl
  have z0 := px_nz_le wa 4
  have z1 := px_nz_le wb 4
  have z2 := px_nz_le wc 4
  have z3 := px_nz_le wd 4
  refine lv_iload_n hx hb dX5_feed_0 rfl (lv_at hl 1 rfl) ?_
  refine lv_if_eq (tgt := 19) hx hb dX5_feed_1 (by decide) (fun c_1 => ?_) (fun c_1 => ?_)
  · exfalso; grind
  · refine lv_iload_n hx hb dX5_feed_4 rfl (lv_at hl 1 rfl) ?_
    refine lv_iconst (v := 1) hx hb dX5_feed_5 (by decide) ?_
    refine lv_icmp_eq (tgt := 19) hx hb dX5_feed_6 (by decide) (fun c_6 => ?_) (fun c_6 => ?_)
    · refine lv_iload_n hx hb dX5_feed_19 rfl (lv_at hl 1 rfl) ?_
      refine lv_if_ne (tgt := 30) hx hb dX5_feed_20 (by decide) (fun c_20 => ?_) (fun c_20 => ?_)
      · refine lv_aload_n hx hb dX5_feed_30 rfl (lv_at hl 0 rfl) ?_
        refine va_get (D := D) (ci := 5) (v := .ref xt) (C := RX5) (T := TX5) (N := 7) hx hb hts i_X5 hown hK hP 0 rfl rfl 1 (by decide) w_0 (fun _ h9 => h9) rfl dX5_feed_31 ?_
        refine lv_astore (lv' := [(6, .ref xt), (0, .ref x), (1, .int rw), (2, .int wa), (3, .int wb), (4, .int wc), (5, .int wd)]) hx hb dX5_feed_34 hl (by decide) rfl (fun ls hl => ?_)
        refine lv_iload_n hx hb dX5_feed_36 rfl (lv_at hl 3 rfl) ?_
        have fr := fr_x (wc := []) (wr := [(x, .inr (5, [.ref xp, .ref xt, .ref so, .ref g, .ref sc, .ref fo, .int sof])), (xt, .inr (4, [.ref xta, .int (nI nn)])), (xta, .inl (cI, 300, .inl tt))]) hP hD hS hA [] [0, 1, 2] rfl rfl (by decide) (by decide) (by decide)
        refine cs_i (J := fun _ => [(x, .inr (5, [.ref xp, .ref xt, .ref so, .ref g, .ref sc, .ref fo, .int sof])), (xt, .inr (4, [.ref xta, .int (nI nn)])), (xta, .inl (cI, 300, .inl tt))]) (As := [.int wa]) (rest := []) ⟨hx, hb, hml, hown, hts⟩ (c_X5_signsIn l D cI cJ cL H.size wa ) (va_cwS 1 hts gX5_feedB_X5_signsIn rfl rfl rfl (by decide +kernel) ⟨Nat.le_of_ble_eq_true rfl, Nat.le_of_ble_eq_true rfl⟩) hK fr.1 fr.2.1 fr.2.2.1 (fun H1 u hk h1 h2 => ⟨(fr.2.2.2 _ H1 hk h1 h2).1.sub [0, 1, 2] rfl, (fr.2.2.2 _ H1 hk h1 h2).2.sub [0, 1, 2] (by decide) rfl⟩) hS rfl hl.1 rfl (Nat.le_of_ble_eq_true rfl) dX5_feed_37 ⟨Nat.zero_le _, Nat.zero_le _⟩ (fun r_2 u_1 H locs hw hP hD hS => ?_)
        subst hw
        refine lv_iload_n hx hb dX5_feed_40 rfl (lv_at hl 4 rfl) ?_
        have fr := fr_x (wc := []) (wr := [(x, .inr (5, [.ref xp, .ref xt, .ref so, .ref g, .ref sc, .ref fo, .int sof])), (xt, .inr (4, [.ref xta, .int (nI nn)])), (xta, .inl (cI, 300, .inl tt))]) hP hD hS hA [] [0, 1, 2] rfl rfl (by decide) (by decide) (by decide)
        refine cs_i (J := fun _ => [(x, .inr (5, [.ref xp, .ref xt, .ref so, .ref g, .ref sc, .ref fo, .int sof])), (xt, .inr (4, [.ref xta, .int (nI nn)])), (xta, .inl (cI, 300, .inl tt))]) (As := [.int wb]) (rest := [.int (nI (px_nz wa 4))]) ⟨hx, hb, hml, hown, hts⟩ (c_X5_signsIn l D cI cJ cL H.size wb ) (va_cwS 1 hts gX5_feedB_X5_signsIn rfl rfl rfl (by decide +kernel) ⟨Nat.le_of_ble_eq_true rfl, Nat.le_of_ble_eq_true rfl⟩) hK fr.1 fr.2.1 fr.2.2.1 (fun H1 u hk h1 h2 => ⟨(fr.2.2.2 _ H1 hk h1 h2).1.sub [0, 1, 2] rfl, (fr.2.2.2 _ H1 hk h1 h2).2.sub [0, 1, 2] (by decide) rfl⟩) hS rfl hl.1 rfl (Nat.le_of_ble_eq_true rfl) dX5_feed_41 ⟨Nat.zero_le _, Nat.zero_le _⟩ (fun r_4 u_3 H locs hw hP hD hS => ?_)
        subst hw
        refine lv_iadd hx hb dX5_feed_44 ?_
        refine lv_cv (y := nI (px_nz wa 4 + (px_nz wb 4))) (nI_add (px_nz wa 4) (px_nz wb 4)) ?_
        refine lv_iload hx hb dX5_feed_45 (lv_at hl 5 rfl) ?_
        have fr := fr_x (wc := []) (wr := [(x, .inr (5, [.ref xp, .ref xt, .ref so, .ref g, .ref sc, .ref fo, .int sof])), (xt, .inr (4, [.ref xta, .int (nI nn)])), (xta, .inl (cI, 300, .inl tt))]) hP hD hS hA [] [0, 1, 2] rfl rfl (by decide) (by decide) (by decide)
        refine cs_i (J := fun _ => [(x, .inr (5, [.ref xp, .ref xt, .ref so, .ref g, .ref sc, .ref fo, .int sof])), (xt, .inr (4, [.ref xta, .int (nI nn)])), (xta, .inl (cI, 300, .inl tt))]) (As := [.int wc]) (rest := [.int (nI (px_nz wa 4 + (px_nz wb 4)))]) ⟨hx, hb, hml, hown, hts⟩ (c_X5_signsIn l D cI cJ cL H.size wc ) (va_cwS 1 hts gX5_feedB_X5_signsIn rfl rfl rfl (by decide +kernel) ⟨Nat.le_of_ble_eq_true rfl, Nat.le_of_ble_eq_true rfl⟩) hK fr.1 fr.2.1 fr.2.2.1 (fun H1 u hk h1 h2 => ⟨(fr.2.2.2 _ H1 hk h1 h2).1.sub [0, 1, 2] rfl, (fr.2.2.2 _ H1 hk h1 h2).2.sub [0, 1, 2] (by decide) rfl⟩) hS rfl hl.1 rfl (Nat.le_of_ble_eq_true rfl) dX5_feed_47 ⟨Nat.zero_le _, Nat.zero_le _⟩ (fun r_6 u_5 H locs hw hP hD hS => ?_)
        subst hw
        refine lv_iadd hx hb dX5_feed_50 ?_
        refine lv_cv (y := nI (px_nz wa 4 + (px_nz wb 4) + (px_nz wc 4))) (nI_add (px_nz wa 4 + (px_nz wb 4)) (px_nz wc 4)) ?_
        refine lv_iload hx hb dX5_feed_51 (lv_at hl 6 rfl) ?_
        have fr := fr_x (wc := []) (wr := [(x, .inr (5, [.ref xp, .ref xt, .ref so, .ref g, .ref sc, .ref fo, .int sof])), (xt, .inr (4, [.ref xta, .int (nI nn)])), (xta, .inl (cI, 300, .inl tt))]) hP hD hS hA [] [0, 1, 2] rfl rfl (by decide) (by decide) (by decide)
        refine cs_i (J := fun _ => [(x, .inr (5, [.ref xp, .ref xt, .ref so, .ref g, .ref sc, .ref fo, .int sof])), (xt, .inr (4, [.ref xta, .int (nI nn)])), (xta, .inl (cI, 300, .inl tt))]) (As := [.int wd]) (rest := [.int (nI (px_nz wa 4 + (px_nz wb 4) + (px_nz wc 4)))]) ⟨hx, hb, hml, hown, hts⟩ (c_X5_signsIn l D cI cJ cL H.size wd ) (va_cwS 1 hts gX5_feedB_X5_signsIn rfl rfl rfl (by decide +kernel) ⟨Nat.le_of_ble_eq_true rfl, Nat.le_of_ble_eq_true rfl⟩) hK fr.1 fr.2.1 fr.2.2.1 (fun H1 u hk h1 h2 => ⟨(fr.2.2.2 _ H1 hk h1 h2).1.sub [0, 1, 2] rfl, (fr.2.2.2 _ H1 hk h1 h2).2.sub [0, 1, 2] (by decide) rfl⟩) hS rfl hl.1 rfl (Nat.le_of_ble_eq_true rfl) dX5_feed_53 ⟨Nat.zero_le _, Nat.zero_le _⟩ (fun r_8 u_7 H locs hw hP hD hS => ?_)
        subst hw
        refine lv_iadd hx hb dX5_feed_56 ?_
        refine lv_cv (y := nI (px_nz wa 4 + (px_nz wb 4) + (px_nz wc 4) + (px_nz wd 4))) (nI_add (px_nz wa 4 + (px_nz wb 4) + (px_nz wc 4)) (px_nz wd 4)) ?_
        refine lv_aload hx hb dX5_feed_57 (lv_at hl 0 rfl) ?_
        have fr := fr_x (wc := [(xt, .inr (4, [.ref xta, .int (nI nn)])), (xta, .inl (cI, 300, .inl tt))]) (wr := [(x, .inr (5, [.ref xp, .ref xt, .ref so, .ref g, .ref sc, .ref fo, .int sof]))]) hP hD hS hA [1, 2] [0] rfl rfl (by decide) (by decide) (by decide)
        refine cv_i (J := fun _ => [(x, .inr (5, [.ref xp, .ref xt, .ref so, .ref g, .ref sc, .ref fo, .int sof])), (xt, .inr (4, [.ref xta, .int (nI nn)])), (xta, .inl (cI, 300, .inl tt))]) (As := []) (rest := [.int (nI (px_nz wa 4 + (px_nz wb 4) + (px_nz wc 4) + (px_nz wd 4)))]) (q0 := 0) (ci := 4) ⟨hx, hb, hml, hown, hts⟩ (c_X4_room l D cI cJ cL H.size xt xta 300 nn tt (by omega)) (cwV 0 hts gX5_feedB_X4_room rfl rfl rfl (by decide +kernel) ⟨Nat.le_of_ble_eq_true rfl, Nat.le_of_ble_eq_true rfl⟩) hK fr.1 fr.2.1 fr.2.2.1 (fun H1 u hk h1 h2 => ⟨(fr.2.2.2 _ H1 hk h1 h2).1.sub [0, 1, 2] rfl, (fr.2.2.2 _ H1 hk h1 h2).2.sub [0, 1, 2] (by decide) rfl⟩) hS rfl rfl rfl rfl hl.1 rfl (Nat.le_of_ble_eq_true rfl) dX5_feed_59 ⟨Nat.zero_le _, Nat.zero_le _⟩ (fun r_10 u_9 H locs hw hP hD hS => ?_)
        subst hw
        refine lv_icmp_le (tgt := 75) hx hb dX5_feed_62 (by decide) (fun c_62 => ?_) (fun c_62 => ?_)
        · have k_62 : px_nz wa 4 + (px_nz wb 4) + (px_nz wc 4) + (px_nz wd 4) ≤ 300 - nn := (nI_leI (a := px_nz wa 4 + (px_nz wb 4) + (px_nz wc 4) + (px_nz wd 4)) (b := 300 - nn) (by omega) (by omega)).mp c_62
          refine lv_aload hx hb dX5_feed_75 (lv_at hl 0 rfl) ?_
          refine lv_iload_n hx hb dX5_feed_77 rfl (lv_at hl 3 rfl) ?_
          have fr := fr_x (wc := [(xt, .inr (4, [.ref xta, .int (nI nn)])), (xta, .inl (cI, 300, .inl tt))]) (wr := [(x, .inr (5, [.ref xp, .ref xt, .ref so, .ref g, .ref sc, .ref fo, .int sof]))]) hP hD hS hA [1, 2] [0] rfl rfl (by decide) (by decide) (by decide)
          refine cv_v (J := fun _ => [(x, .inr (5, [.ref xp, .ref xt, .ref so, .ref g, .ref sc, .ref fo, .int sof])), (xt, .inr (4, [.ref xta, .int (nI ((px_pw wa (nn, tt) 4).1))])), (xta, .inl (cI, 300, .inl ((px_pw wa (nn, tt) 4).2)))]) (As := [.int wa]) (rest := []) (q0 := 0) (ci := 4) ⟨hx, hb, hml, hown, hts⟩ (c_X4_takeSignsOf l D cI cJ cL H.size xt xta 300 nn tt wa (by omega) (by omega)) (cwV 1 hts gX5_feedB_X4_takeSignsOf rfl rfl rfl (by decide +kernel) ⟨Nat.le_of_ble_eq_true rfl, Nat.le_of_ble_eq_true rfl⟩) hK fr.1 fr.2.1 fr.2.2.1 (fun H1 u hk h1 h2 => ⟨(fr.2.2.2 _ H1 hk h1 h2).1.sub [0, 1, 2] rfl, (fr.2.2.2 _ H1 hk h1 h2).2.sub [0, 1, 2] (by decide) rfl⟩) hS rfl rfl rfl rfl hl.1 rfl (Nat.le_of_ble_eq_true rfl) dX5_feed_78 ⟨Nat.zero_le _, Nat.zero_le _⟩ (fun u_11 H locs hw hP hD hS => ?_)
          refine lv_aload hx hb dX5_feed_81 (lv_at hl 0 rfl) ?_
          refine lv_iload_n hx hb dX5_feed_83 rfl (lv_at hl 4 rfl) ?_
          have n1 : (px_pw wa (nn, tt) 4).1 = nn + px_nz wa 4 := px_pw_n wa (nn, tt) 4
          have fr := fr_x (wc := [(xt, .inr (4, [.ref xta, .int (nI ((px_pw wa (nn, tt) 4).1))])), (xta, .inl (cI, 300, .inl ((px_pw wa (nn, tt) 4).2)))]) (wr := [(x, .inr (5, [.ref xp, .ref xt, .ref so, .ref g, .ref sc, .ref fo, .int sof]))]) hP hD hS hA [1, 2] [0] rfl rfl (by decide) (by decide) (by decide)
          refine cv_v (J := fun _ => [(x, .inr (5, [.ref xp, .ref xt, .ref so, .ref g, .ref sc, .ref fo, .int sof])), (xt, .inr (4, [.ref xta, .int (nI ((px_pw wb (((px_pw wa (nn, tt) 4).1), ((px_pw wa (nn, tt) 4).2)) 4).1))])), (xta, .inl (cI, 300, .inl ((px_pw wb (((px_pw wa (nn, tt) 4).1), ((px_pw wa (nn, tt) 4).2)) 4).2)))]) (As := [.int wb]) (rest := []) (q0 := 0) (ci := 4) ⟨hx, hb, hml, hown, hts⟩ (c_X4_takeSignsOf l D cI cJ cL H.size xt xta 300 ((px_pw wa (nn, tt) 4).1) ((px_pw wa (nn, tt) 4).2) wb (by omega) (by omega)) (cwV 1 hts gX5_feedB_X4_takeSignsOf rfl rfl rfl (by decide +kernel) ⟨Nat.le_of_ble_eq_true rfl, Nat.le_of_ble_eq_true rfl⟩) hK fr.1 fr.2.1 fr.2.2.1 (fun H1 u hk h1 h2 => ⟨(fr.2.2.2 _ H1 hk h1 h2).1.sub [0, 1, 2] rfl, (fr.2.2.2 _ H1 hk h1 h2).2.sub [0, 1, 2] (by decide) rfl⟩) hS rfl rfl rfl rfl hl.1 rfl (Nat.le_of_ble_eq_true rfl) dX5_feed_84 ⟨Nat.zero_le _, Nat.zero_le _⟩ (fun u_13 H locs hw hP hD hS => ?_)
          have hP : va_P D vwCl [(x, .inr (5, [.ref xp, .ref xt, .ref so, .ref g, .ref sc, .ref fo, .int sof])), (xt, .inr (4, [.ref xta, .int (nI ((px_pw wb (px_pw wa (nn, tt) 4) 4).1))])), (xta, .inl (cI, 300, .inl ((px_pw wb (px_pw wa (nn, tt) 4) 4).2)))] H := hP
          have hD : va_D A [(x, .inr (5, [.ref xp, .ref xt, .ref so, .ref g, .ref sc, .ref fo, .int sof])), (xt, .inr (4, [.ref xta, .int (nI ((px_pw wb (px_pw wa (nn, tt) 4) 4).1))])), (xta, .inl (cI, 300, .inl ((px_pw wb (px_pw wa (nn, tt) 4) 4).2)))] := hD
          refine lv_aload hx hb dX5_feed_87 (lv_at hl 0 rfl) ?_
          refine lv_iload hx hb dX5_feed_89 (lv_at hl 5 rfl) ?_
          have n2 : (px_pw wb (px_pw wa (nn, tt) 4) 4).1 = (px_pw wa (nn, tt) 4).1 + px_nz wb 4 := px_pw_n wb (px_pw wa (nn, tt) 4) 4
          have fr := fr_x (wc := [(xt, .inr (4, [.ref xta, .int (nI ((px_pw wb (px_pw wa (nn, tt) 4) 4).1))])), (xta, .inl (cI, 300, .inl ((px_pw wb (px_pw wa (nn, tt) 4) 4).2)))]) (wr := [(x, .inr (5, [.ref xp, .ref xt, .ref so, .ref g, .ref sc, .ref fo, .int sof]))]) hP hD hS hA [1, 2] [0] rfl rfl (by decide) (by decide) (by decide)
          refine cv_v (J := fun _ => [(x, .inr (5, [.ref xp, .ref xt, .ref so, .ref g, .ref sc, .ref fo, .int sof])), (xt, .inr (4, [.ref xta, .int (nI ((px_pw wc (((px_pw wb (px_pw wa (nn, tt) 4) 4).1), ((px_pw wb (px_pw wa (nn, tt) 4) 4).2)) 4).1))])), (xta, .inl (cI, 300, .inl ((px_pw wc (((px_pw wb (px_pw wa (nn, tt) 4) 4).1), ((px_pw wb (px_pw wa (nn, tt) 4) 4).2)) 4).2)))]) (As := [.int wc]) (rest := []) (q0 := 0) (ci := 4) ⟨hx, hb, hml, hown, hts⟩ (c_X4_takeSignsOf l D cI cJ cL H.size xt xta 300 ((px_pw wb (px_pw wa (nn, tt) 4) 4).1) ((px_pw wb (px_pw wa (nn, tt) 4) 4).2) wc (by omega) (by omega)) (cwV 1 hts gX5_feedB_X4_takeSignsOf rfl rfl rfl (by decide +kernel) ⟨Nat.le_of_ble_eq_true rfl, Nat.le_of_ble_eq_true rfl⟩) hK fr.1 fr.2.1 fr.2.2.1 (fun H1 u hk h1 h2 => ⟨(fr.2.2.2 _ H1 hk h1 h2).1.sub [0, 1, 2] rfl, (fr.2.2.2 _ H1 hk h1 h2).2.sub [0, 1, 2] (by decide) rfl⟩) hS rfl rfl rfl rfl hl.1 rfl (Nat.le_of_ble_eq_true rfl) dX5_feed_91 ⟨Nat.zero_le _, Nat.zero_le _⟩ (fun u_15 H locs hw hP hD hS => ?_)
          have hP : va_P D vwCl [(x, .inr (5, [.ref xp, .ref xt, .ref so, .ref g, .ref sc, .ref fo, .int sof])), (xt, .inr (4, [.ref xta, .int (nI ((px_pw wc (px_pw wb (px_pw wa (nn, tt) 4) 4) 4).1))])), (xta, .inl (cI, 300, .inl ((px_pw wc (px_pw wb (px_pw wa (nn, tt) 4) 4) 4).2)))] H := hP
          have hD : va_D A [(x, .inr (5, [.ref xp, .ref xt, .ref so, .ref g, .ref sc, .ref fo, .int sof])), (xt, .inr (4, [.ref xta, .int (nI ((px_pw wc (px_pw wb (px_pw wa (nn, tt) 4) 4) 4).1))])), (xta, .inl (cI, 300, .inl ((px_pw wc (px_pw wb (px_pw wa (nn, tt) 4) 4) 4).2)))] := hD
          refine lv_aload hx hb dX5_feed_94 (lv_at hl 0 rfl) ?_
          refine lv_iload hx hb dX5_feed_96 (lv_at hl 6 rfl) ?_
          have n3 : (px_pw wc (px_pw wb (px_pw wa (nn, tt) 4) 4) 4).1 = (px_pw wb (px_pw wa (nn, tt) 4) 4).1 + px_nz wc 4 := px_pw_n wc (px_pw wb (px_pw wa (nn, tt) 4) 4) 4
          have fr := fr_x (wc := [(xt, .inr (4, [.ref xta, .int (nI ((px_pw wc (px_pw wb (px_pw wa (nn, tt) 4) 4) 4).1))])), (xta, .inl (cI, 300, .inl ((px_pw wc (px_pw wb (px_pw wa (nn, tt) 4) 4) 4).2)))]) (wr := [(x, .inr (5, [.ref xp, .ref xt, .ref so, .ref g, .ref sc, .ref fo, .int sof]))]) hP hD hS hA [1, 2] [0] rfl rfl (by decide) (by decide) (by decide)
          refine cv_v (J := fun _ => [(x, .inr (5, [.ref xp, .ref xt, .ref so, .ref g, .ref sc, .ref fo, .int sof])), (xt, .inr (4, [.ref xta, .int (nI ((px_pw wd (((px_pw wc (px_pw wb (px_pw wa (nn, tt) 4) 4) 4).1), ((px_pw wc (px_pw wb (px_pw wa (nn, tt) 4) 4) 4).2)) 4).1))])), (xta, .inl (cI, 300, .inl ((px_pw wd (((px_pw wc (px_pw wb (px_pw wa (nn, tt) 4) 4) 4).1), ((px_pw wc (px_pw wb (px_pw wa (nn, tt) 4) 4) 4).2)) 4).2)))]) (As := [.int wd]) (rest := []) (q0 := 0) (ci := 4) ⟨hx, hb, hml, hown, hts⟩ (c_X4_takeSignsOf l D cI cJ cL H.size xt xta 300 ((px_pw wc (px_pw wb (px_pw wa (nn, tt) 4) 4) 4).1) ((px_pw wc (px_pw wb (px_pw wa (nn, tt) 4) 4) 4).2) wd (by omega) (by omega)) (cwV 1 hts gX5_feedB_X4_takeSignsOf rfl rfl rfl (by decide +kernel) ⟨Nat.le_of_ble_eq_true rfl, Nat.le_of_ble_eq_true rfl⟩) hK fr.1 fr.2.1 fr.2.2.1 (fun H1 u hk h1 h2 => ⟨(fr.2.2.2 _ H1 hk h1 h2).1.sub [0, 1, 2] rfl, (fr.2.2.2 _ H1 hk h1 h2).2.sub [0, 1, 2] (by decide) rfl⟩) hS rfl rfl rfl rfl hl.1 rfl (Nat.le_of_ble_eq_true rfl) dX5_feed_98 ⟨Nat.zero_le _, Nat.zero_le _⟩ (fun u_17 H locs hw hP hD hS => ?_)
          have hP : va_P D vwCl [(x, .inr (5, [.ref xp, .ref xt, .ref so, .ref g, .ref sc, .ref fo, .int sof])), (xt, .inr (4, [.ref xta, .int (nI ((px_pw wd (px_pw wc (px_pw wb (px_pw wa (nn, tt) 4) 4) 4) 4).1))])), (xta, .inl (cI, 300, .inl ((px_pw wd (px_pw wc (px_pw wb (px_pw wa (nn, tt) 4) 4) 4) 4).2)))] H := hP
          have hD : va_D A [(x, .inr (5, [.ref xp, .ref xt, .ref so, .ref g, .ref sc, .ref fo, .int sof])), (xt, .inr (4, [.ref xta, .int (nI ((px_pw wd (px_pw wc (px_pw wb (px_pw wa (nn, tt) 4) 4) 4) 4).1))])), (xta, .inl (cI, 300, .inl ((px_pw wd (px_pw wc (px_pw wb (px_pw wa (nn, tt) 4) 4) 4) 4).2)))] := hD
          refine lv_aload hx hb dX5_feed_101 (lv_at hl 0 rfl) ?_
          have fr := fr_x (wc := [(xt, .inr (4, [.ref xta, .int (nI ((px_pw wd (px_pw wc (px_pw wb (px_pw wa (nn, tt) 4) 4) 4) 4).1))])), (xta, .inl (cI, 300, .inl ((px_pw wd (px_pw wc (px_pw wb (px_pw wa (nn, tt) 4) 4) 4) 4).2)))]) (wr := [(x, .inr (5, [.ref xp, .ref xt, .ref so, .ref g, .ref sc, .ref fo, .int sof]))]) hP hD hS hA [1, 2] [0] rfl rfl (by decide) (by decide) (by decide)
          refine cv_i (J := fun _ => [(x, .inr (5, [.ref xp, .ref xt, .ref so, .ref g, .ref sc, .ref fo, .int sof])), (xt, .inr (4, [.ref xta, .int (nI ((px_pw wd (px_pw wc (px_pw wb (px_pw wa (nn, tt) 4) 4) 4) 4).1))])), (xta, .inl (cI, 300, .inl ((px_pw wd (px_pw wc (px_pw wb (px_pw wa (nn, tt) 4) 4) 4) 4).2)))]) (As := []) (rest := []) (q0 := 0) (ci := 4) ⟨hx, hb, hml, hown, hts⟩ (c_X4_size l D cI cJ cL H.size xt xta 300 ((px_pw wd (px_pw wc (px_pw wb (px_pw wa (nn, tt) 4) 4) 4) 4).1) ((px_pw wd (px_pw wc (px_pw wb (px_pw wa (nn, tt) 4) 4) 4) 4).2) ) (cwV 0 hts gX5_feedB_X4_size rfl rfl rfl (by decide +kernel) ⟨Nat.le_of_ble_eq_true rfl, Nat.le_of_ble_eq_true rfl⟩) hK fr.1 fr.2.1 fr.2.2.1 (fun H1 u hk h1 h2 => ⟨(fr.2.2.2 _ H1 hk h1 h2).1.sub [0, 1, 2] rfl, (fr.2.2.2 _ H1 hk h1 h2).2.sub [0, 1, 2] (by decide) rfl⟩) hS rfl rfl rfl rfl hl.1 rfl (Nat.le_of_ble_eq_true rfl) dX5_feed_103 ⟨Nat.zero_le _, Nat.zero_le _⟩ (fun r_20 u_19 H locs hw hP hD hS => ?_)
          subst hw
          exact fin_i () hx hb hr hlocks dX5_feed_106 hK hS hP hD rfl
        · have k_62 : ¬ (px_nz wa 4 + (px_nz wb 4) + (px_nz wc 4) + (px_nz wd 4) ≤ 300 - nn) := fun q => c_62 ((nI_leI (a := px_nz wa 4 + (px_nz wb 4) + (px_nz wc 4) + (px_nz wd 4)) (b := 300 - nn) (by omega) (by omega)).mpr q)
          exfalso; grind
      · exfalso; grind
    · exfalso; grind

set_option maxHeartbeats 4000000 in
set_option maxRecDepth 100000 in
theorem c_X5_clear_0 (l : Launch) (D : va_G) (cI cJ cL : ClassId) (sz : Nat) (x : Nat) (xp : Nat) (xt : Nat) (so : Nat) (g : Nat) (sc : Nat) (fo : Nat) (sof : Int32) (xpa : Nat) (mm : Nat) (pp : Nat → Int32) (rw : Int32) (h0 : rw = 0) :
    Met l yX5_clear wsX5_clearB { frames := 1, cells := 0, slots := 0, locals := 20 } (va_Pc [.ref x, .int rw] (Wd D [(cI, .int), (cJ, .array .int), (cL, .long)] [(x, .inr (5, [.ref xp, .ref xt, .ref so, .ref g, .ref sc, .ref fo, .int sof])), (xp, .inr (4, [.ref xpa, .int (nI mm)])), (xpa, .inl (cI, 150, .inl pp))] sz))
      (va_Qi (fun (r : Int32) (_ : Unit) => r = nI mm) (fun _ => Wa D [(cI, .int), (cJ, .array .int), (cL, .long)] (va_A [(x, .inr (5, [.ref xp, .ref xt, .ref so, .ref g, .ref sc, .ref fo, .int sof])), (xp, .inr (4, [.ref xpa, .int (nI mm)])), (xpa, .inl (cI, 150, .inl pp))] sz) ([(x, .inr (5, [.ref xp, .ref xt, .ref so, .ref g, .ref sc, .ref fo, .int sof])), (xp, .inr (4, [.ref xpa, .int (nI 0)])), (xpa, .inl (cI, 150, .inl pp))])) (va_A [(x, .inr (5, [.ref xp, .ref xt, .ref so, .ref g, .ref sc, .ref fo, .int sof])), (xp, .inr (4, [.ref xpa, .int (nI mm)])), (xpa, .inl (cI, 150, .inl pp))] sz)) 0 0 (va_A [(x, .inr (5, [.ref xp, .ref xt, .ref so, .ref g, .ref sc, .ref fo, .int sof])), (xp, .inr (4, [.ref xpa, .int (nI mm)])), (xpa, .inl (cI, 150, .inl pp))] sz) := by
  refine Met.ofW (cc := cX5_clear) (maxL := 4) (ret := (some .int)) (by decide) rfl ?_
  intro p e s m args below meth c s₁ B hml hv
  obtain ⟨rfl, hsz, hP, hK, hD0⟩ := hv
  have hx := B.exec
  have hb := B.bytes
  have hr := B.returns
  have hts := atoms_spec (ws := wsX5_clearB) B.pre
  have hown : s.vm.findClass RX5 = some m.cls := findClass_of_methodNamed B.named
  have hlocks := B.notSynchronized
  subst hsz
  have hD := hD0.self (sz := s.heap.size)
  generalize hAe : va_A [(x, .inr (5, [.ref xp, .ref xt, .ref so, .ref g, .ref sc, .ref fo, .int sof])), (xp, .inr (4, [.ref xpa, .int (nI mm)])), (xpa, .inl (cI, 150, .inl pp))] s.heap.size = A at hD ⊢
  have hA : ∀ q : Nat, s.heap.size ≤ q → A q := fun q h => by rw [← hAe]; exact Or.inr h
  have hl := lv_entry ([.ref x, .int rw]) (n := 4) (Nat.le_of_ble_eq_true rfl)
  rw [lg_entry_eq]
  generalize (lg_sl ([.ref x, .int rw]) ++ List.replicate (4 - (lg_sl ([.ref x, .int rw])).length) Slot.unset).toArray = ls at hl ⊢
  have hl : lv_has ls 4 [(0, .ref x), (1, .int rw)] := hl
  refine hv_start (A := A) (ws := [(x, .inr (5, [.ref xp, .ref xt, .ref so, .ref g, .ref sc, .ref fo, .int sof])), (xp, .inr (4, [.ref xpa, .int (nI mm)])), (xpa, .inl (cI, 150, .inl pp))]) hP (fun H locs hP hS => ?_)
  have w_0 := hts (.fieldLink RX5 14 "TextAligner" "pattern" "LTextAligner$SignRow;") (by decide +kernel)
  have i_X5 : ∀ w ∈ wsX50, w ∈ wsX5_clearB := by decide +kernel
  refine lv_iload_n hx hb dX5_clear_0 rfl (lv_at hl 1 rfl) ?_
  refine lv_if_eq (tgt := 19) hx hb dX5_clear_1 (by decide) (fun c_1 => ?_) (fun c_1 => ?_)
  · refine lv_iload_n hx hb dX5_clear_19 rfl (lv_at hl 1 rfl) ?_
    refine lv_if_ne (tgt := 30) hx hb dX5_clear_20 (by decide) (fun c_20 => ?_) (fun c_20 => ?_)
    · exfalso; grind
    · refine lv_aload_n hx hb dX5_clear_23 rfl (lv_at hl 0 rfl) ?_
      refine va_get (D := D) (ci := 5) (v := .ref xp) (C := RX5) (T := TX5) (N := 7) hx hb hts i_X5 hown hK hP 0 rfl rfl 0 (by decide) w_0 (fun _ h9 => h9) rfl dX5_clear_24 ?_
      refine lv_goto (tgt := 34) hx hb dX5_clear_27 (by decide) ?_
      refine lv_astore_n (lv' := [(2, .ref xp), (0, .ref x), (1, .int rw)]) hx hb dX5_clear_34 rfl hl (by decide) rfl (fun ls hl => ?_)
      refine lv_aload_n hx hb dX5_clear_35 rfl (lv_at hl 0 rfl) ?_
      have fr := fr_x (wc := [(xp, .inr (4, [.ref xpa, .int (nI mm)])), (xpa, .inl (cI, 150, .inl pp))]) (wr := [(x, .inr (5, [.ref xp, .ref xt, .ref so, .ref g, .ref sc, .ref fo, .int sof]))]) hP hD hS hA [1, 2] [0] rfl rfl (by decide) (by decide) (by decide)
      refine cv_i (J := fun _ => [(x, .inr (5, [.ref xp, .ref xt, .ref so, .ref g, .ref sc, .ref fo, .int sof])), (xp, .inr (4, [.ref xpa, .int (nI mm)])), (xpa, .inl (cI, 150, .inl pp))]) (As := []) (rest := []) (q0 := 0) (ci := 4) ⟨hx, hb, hml, hown, hts⟩ (c_X4_size l D cI cJ cL H.size xp xpa 150 mm pp ) (cwV 0 hts gX5_clearB_X4_size rfl rfl rfl (by decide +kernel) ⟨Nat.le_of_ble_eq_true rfl, Nat.le_of_ble_eq_true rfl⟩) hK fr.1 fr.2.1 fr.2.2.1 (fun H1 u hk h1 h2 => ⟨(fr.2.2.2 _ H1 hk h1 h2).1.sub [0, 1, 2] rfl, (fr.2.2.2 _ H1 hk h1 h2).2.sub [0, 1, 2] (by decide) rfl⟩) hS rfl rfl rfl rfl hl.1 rfl (Nat.le_of_ble_eq_true rfl) dX5_clear_36 ⟨Nat.zero_le _, Nat.zero_le _⟩ (fun r_2 u_1 H locs hw hP hD hS => ?_)
      subst hw
      refine lv_istore_n (lv' := [(3, .int (nI mm)), (2, .ref xp), (0, .ref x), (1, .int rw)]) hx hb dX5_clear_39 rfl hl (by decide) rfl (fun ls hl => ?_)
      refine lv_aload_n hx hb dX5_clear_40 rfl (lv_at hl 1 rfl) ?_
      have fr := fr_x (wc := [(xp, .inr (4, [.ref xpa, .int (nI mm)])), (xpa, .inl (cI, 150, .inl pp))]) (wr := [(x, .inr (5, [.ref xp, .ref xt, .ref so, .ref g, .ref sc, .ref fo, .int sof]))]) hP hD hS hA [1, 2] [0] rfl rfl (by decide) (by decide) (by decide)
      refine cv_v (J := fun _ => [(x, .inr (5, [.ref xp, .ref xt, .ref so, .ref g, .ref sc, .ref fo, .int sof])), (xp, .inr (4, [.ref xpa, .int (nI 0)])), (xpa, .inl (cI, 150, .inl pp))]) (As := []) (rest := []) (q0 := 0) (ci := 4) ⟨hx, hb, hml, hown, hts⟩ (c_X4_becomeEmpty l D cI cJ cL H.size xp xpa 150 mm pp ) (cwV 0 hts gX5_clearB_X4_becomeEmpty rfl rfl rfl (by decide +kernel) ⟨Nat.le_of_ble_eq_true rfl, Nat.le_of_ble_eq_true rfl⟩) hK fr.1 fr.2.1 fr.2.2.1 (fun H1 u hk h1 h2 => ⟨(fr.2.2.2 _ H1 hk h1 h2).1.sub [0, 1, 2] rfl, (fr.2.2.2 _ H1 hk h1 h2).2.sub [0, 1, 2] (by decide) rfl⟩) hS rfl rfl rfl rfl hl.1 rfl (Nat.le_of_ble_eq_true rfl) dX5_clear_41 ⟨Nat.zero_le _, Nat.zero_le _⟩ (fun u_3 H locs hw hP hD hS => ?_)
      refine lv_iload_n hx hb dX5_clear_44 rfl (lv_at hl 0 rfl) ?_
      exact fin_i () hx hb hr hlocks dX5_clear_45 hK hS hP hD rfl
  · exfalso; grind

set_option maxHeartbeats 4000000 in
set_option maxRecDepth 100000 in
theorem c_X5_clear_1 (l : Launch) (D : va_G) (cI cJ cL : ClassId) (sz : Nat) (x : Nat) (xp : Nat) (xt : Nat) (so : Nat) (g : Nat) (sc : Nat) (fo : Nat) (sof : Int32) (xta : Nat) (nn : Nat) (tt : Nat → Int32) (rw : Int32) (h0 : rw = 1) :
    Met l yX5_clear wsX5_clearB { frames := 1, cells := 0, slots := 0, locals := 20 } (va_Pc [.ref x, .int rw] (Wd D [(cI, .int), (cJ, .array .int), (cL, .long)] [(x, .inr (5, [.ref xp, .ref xt, .ref so, .ref g, .ref sc, .ref fo, .int sof])), (xt, .inr (4, [.ref xta, .int (nI nn)])), (xta, .inl (cI, 300, .inl tt))] sz))
      (va_Qi (fun (r : Int32) (_ : Unit) => r = nI nn) (fun _ => Wa D [(cI, .int), (cJ, .array .int), (cL, .long)] (va_A [(x, .inr (5, [.ref xp, .ref xt, .ref so, .ref g, .ref sc, .ref fo, .int sof])), (xt, .inr (4, [.ref xta, .int (nI nn)])), (xta, .inl (cI, 300, .inl tt))] sz) ([(x, .inr (5, [.ref xp, .ref xt, .ref so, .ref g, .ref sc, .ref fo, .int sof])), (xt, .inr (4, [.ref xta, .int (nI 0)])), (xta, .inl (cI, 300, .inl tt))])) (va_A [(x, .inr (5, [.ref xp, .ref xt, .ref so, .ref g, .ref sc, .ref fo, .int sof])), (xt, .inr (4, [.ref xta, .int (nI nn)])), (xta, .inl (cI, 300, .inl tt))] sz)) 0 0 (va_A [(x, .inr (5, [.ref xp, .ref xt, .ref so, .ref g, .ref sc, .ref fo, .int sof])), (xt, .inr (4, [.ref xta, .int (nI nn)])), (xta, .inl (cI, 300, .inl tt))] sz) := by
  refine Met.ofW (cc := cX5_clear) (maxL := 4) (ret := (some .int)) (by decide) rfl ?_
  intro p e s m args below meth c s₁ B hml hv
  obtain ⟨rfl, hsz, hP, hK, hD0⟩ := hv
  have hx := B.exec
  have hb := B.bytes
  have hr := B.returns
  have hts := atoms_spec (ws := wsX5_clearB) B.pre
  have hown : s.vm.findClass RX5 = some m.cls := findClass_of_methodNamed B.named
  have hlocks := B.notSynchronized
  subst hsz
  have hD := hD0.self (sz := s.heap.size)
  generalize hAe : va_A [(x, .inr (5, [.ref xp, .ref xt, .ref so, .ref g, .ref sc, .ref fo, .int sof])), (xt, .inr (4, [.ref xta, .int (nI nn)])), (xta, .inl (cI, 300, .inl tt))] s.heap.size = A at hD ⊢
  have hA : ∀ q : Nat, s.heap.size ≤ q → A q := fun q h => by rw [← hAe]; exact Or.inr h
  have hl := lv_entry ([.ref x, .int rw]) (n := 4) (Nat.le_of_ble_eq_true rfl)
  rw [lg_entry_eq]
  generalize (lg_sl ([.ref x, .int rw]) ++ List.replicate (4 - (lg_sl ([.ref x, .int rw])).length) Slot.unset).toArray = ls at hl ⊢
  have hl : lv_has ls 4 [(0, .ref x), (1, .int rw)] := hl
  refine hv_start (A := A) (ws := [(x, .inr (5, [.ref xp, .ref xt, .ref so, .ref g, .ref sc, .ref fo, .int sof])), (xt, .inr (4, [.ref xta, .int (nI nn)])), (xta, .inl (cI, 300, .inl tt))]) hP (fun H locs hP hS => ?_)
  have w_0 := hts (.fieldLink RX5 18 "TextAligner" "text" "LTextAligner$SignRow;") (by decide +kernel)
  have i_X5 : ∀ w ∈ wsX50, w ∈ wsX5_clearB := by decide +kernel
  refine lv_iload_n hx hb dX5_clear_0 rfl (lv_at hl 1 rfl) ?_
  refine lv_if_eq (tgt := 19) hx hb dX5_clear_1 (by decide) (fun c_1 => ?_) (fun c_1 => ?_)
  · exfalso; grind
  · refine lv_iload_n hx hb dX5_clear_4 rfl (lv_at hl 1 rfl) ?_
    refine lv_iconst (v := 1) hx hb dX5_clear_5 (by decide) ?_
    refine lv_icmp_eq (tgt := 19) hx hb dX5_clear_6 (by decide) (fun c_6 => ?_) (fun c_6 => ?_)
    · refine lv_iload_n hx hb dX5_clear_19 rfl (lv_at hl 1 rfl) ?_
      refine lv_if_ne (tgt := 30) hx hb dX5_clear_20 (by decide) (fun c_20 => ?_) (fun c_20 => ?_)
      · refine lv_aload_n hx hb dX5_clear_30 rfl (lv_at hl 0 rfl) ?_
        refine va_get (D := D) (ci := 5) (v := .ref xt) (C := RX5) (T := TX5) (N := 7) hx hb hts i_X5 hown hK hP 0 rfl rfl 1 (by decide) w_0 (fun _ h9 => h9) rfl dX5_clear_31 ?_
        refine lv_astore_n (lv' := [(2, .ref xt), (0, .ref x), (1, .int rw)]) hx hb dX5_clear_34 rfl hl (by decide) rfl (fun ls hl => ?_)
        refine lv_aload_n hx hb dX5_clear_35 rfl (lv_at hl 0 rfl) ?_
        have fr := fr_x (wc := [(xt, .inr (4, [.ref xta, .int (nI nn)])), (xta, .inl (cI, 300, .inl tt))]) (wr := [(x, .inr (5, [.ref xp, .ref xt, .ref so, .ref g, .ref sc, .ref fo, .int sof]))]) hP hD hS hA [1, 2] [0] rfl rfl (by decide) (by decide) (by decide)
        refine cv_i (J := fun _ => [(x, .inr (5, [.ref xp, .ref xt, .ref so, .ref g, .ref sc, .ref fo, .int sof])), (xt, .inr (4, [.ref xta, .int (nI nn)])), (xta, .inl (cI, 300, .inl tt))]) (As := []) (rest := []) (q0 := 0) (ci := 4) ⟨hx, hb, hml, hown, hts⟩ (c_X4_size l D cI cJ cL H.size xt xta 300 nn tt ) (cwV 0 hts gX5_clearB_X4_size rfl rfl rfl (by decide +kernel) ⟨Nat.le_of_ble_eq_true rfl, Nat.le_of_ble_eq_true rfl⟩) hK fr.1 fr.2.1 fr.2.2.1 (fun H1 u hk h1 h2 => ⟨(fr.2.2.2 _ H1 hk h1 h2).1.sub [0, 1, 2] rfl, (fr.2.2.2 _ H1 hk h1 h2).2.sub [0, 1, 2] (by decide) rfl⟩) hS rfl rfl rfl rfl hl.1 rfl (Nat.le_of_ble_eq_true rfl) dX5_clear_36 ⟨Nat.zero_le _, Nat.zero_le _⟩ (fun r_2 u_1 H locs hw hP hD hS => ?_)
        subst hw
        refine lv_istore_n (lv' := [(3, .int (nI nn)), (2, .ref xt), (0, .ref x), (1, .int rw)]) hx hb dX5_clear_39 rfl hl (by decide) rfl (fun ls hl => ?_)
        refine lv_aload_n hx hb dX5_clear_40 rfl (lv_at hl 1 rfl) ?_
        have fr := fr_x (wc := [(xt, .inr (4, [.ref xta, .int (nI nn)])), (xta, .inl (cI, 300, .inl tt))]) (wr := [(x, .inr (5, [.ref xp, .ref xt, .ref so, .ref g, .ref sc, .ref fo, .int sof]))]) hP hD hS hA [1, 2] [0] rfl rfl (by decide) (by decide) (by decide)
        refine cv_v (J := fun _ => [(x, .inr (5, [.ref xp, .ref xt, .ref so, .ref g, .ref sc, .ref fo, .int sof])), (xt, .inr (4, [.ref xta, .int (nI 0)])), (xta, .inl (cI, 300, .inl tt))]) (As := []) (rest := []) (q0 := 0) (ci := 4) ⟨hx, hb, hml, hown, hts⟩ (c_X4_becomeEmpty l D cI cJ cL H.size xt xta 300 nn tt ) (cwV 0 hts gX5_clearB_X4_becomeEmpty rfl rfl rfl (by decide +kernel) ⟨Nat.le_of_ble_eq_true rfl, Nat.le_of_ble_eq_true rfl⟩) hK fr.1 fr.2.1 fr.2.2.1 (fun H1 u hk h1 h2 => ⟨(fr.2.2.2 _ H1 hk h1 h2).1.sub [0, 1, 2] rfl, (fr.2.2.2 _ H1 hk h1 h2).2.sub [0, 1, 2] (by decide) rfl⟩) hS rfl rfl rfl rfl hl.1 rfl (Nat.le_of_ble_eq_true rfl) dX5_clear_41 ⟨Nat.zero_le _, Nat.zero_le _⟩ (fun u_3 H locs hw hP hD hS => ?_)
        refine lv_iload_n hx hb dX5_clear_44 rfl (lv_at hl 0 rfl) ?_
        exact fin_i () hx hb hr hlocks dX5_clear_45 hK hS hP hD rfl
      · exfalso; grind
    · exfalso; grind

set_option maxHeartbeats 4000000 in
set_option maxRecDepth 100000 in
theorem c_X5_search_y (l : Launch) (D : va_G) (cI cJ cL : ClassId) (sz : Nat) (x : Nat) (xp : Nat) (xt : Nat) (so : Nat) (g : Nat) (sc : Nat) (fo : Nat) (sof : Int32) (xpa : Nat) (mm : Nat) (pp : Nat → Int32) (xta : Nat) (nn : Nat) (tt : Nat → Int32) (gp : Nat) (gpa : Nat) (gt : Nat) (gta : Nat) (ge : Nat) (gd : Nat) (gs : Nat) (gn : Nat) (gl : Nat) (om : Nat) (on : Nat) (cnt : Nat) (op : Nat → Int32) (ot : Nat → Int32) (fe : Nat → Int32) (fd : Nat → Int32) (fs : Nat → Int32) (fn : Nat → Int32) (fl : Nat → Int32) (mode : Int32) (bound : Int32) (h0 : 0 ≤ mode ∧ mode ≤ 2 ∧ 0 ≤ bound ∧ bound ≤ 450) (hmm : mm ≤ 150) (hnn : nn ≤ 300) :
    Met l yX5_search wsX5_search { frames := 3, cells := 0, slots := 0, locals := 77 } (va_Pc [.ref x, .int mode, .int bound] (Wd D [(cI, .int), (cJ, .array .int), (cL, .long)] [(x, .inr (5, [.ref xp, .ref xt, .ref so, .ref g, .ref sc, .ref fo, .int sof])), (xp, .inr (4, [.ref xpa, .int (nI mm)])), (xpa, .inl (cI, 150, .inl pp)), (xt, .inr (4, [.ref xta, .int (nI nn)])), (xta, .inl (cI, 300, .inl tt)), (g, .inr (0, [.ref gp, .ref gt, .ref ge, .ref gd, .ref gs, .int (nI cnt), .ref gn, .ref gl])), (gp, .inr (4, [.ref gpa, .int (nI om)])), (gpa, .inl (cI, 150, .inl op)), (gt, .inr (4, [.ref gta, .int (nI on)])), (gta, .inl (cI, 300, .inl ot)), (ge, .inl (cI, 301, .inl fe)), (gd, .inl (cI, 301, .inl fd)), (gs, .inl (cI, 301, .inl fs)), (gn, .inl (cI, 151, .inl fn)), (gl, .inl (cI, 151, .inl fl))] sz))
      (va_Qi (fun (r : Int32) (u : (Nat → Int32) × (Nat → Int32)) => r = nI ((px_fnd mm nn (va_cpy pp op 0 0 mm) (va_cpy tt ot 0 0 nn) mode bound (cnt, fe, fd, fs) nn).1)) (fun u => Wa D [(cI, .int), (cJ, .array .int), (cL, .long)] (va_A [(x, .inr (5, [.ref xp, .ref xt, .ref so, .ref g, .ref sc, .ref fo, .int sof])), (xp, .inr (4, [.ref xpa, .int (nI mm)])), (xpa, .inl (cI, 150, .inl pp)), (xt, .inr (4, [.ref xta, .int (nI nn)])), (xta, .inl (cI, 300, .inl tt)), (g, .inr (0, [.ref gp, .ref gt, .ref ge, .ref gd, .ref gs, .int (nI cnt), .ref gn, .ref gl])), (gp, .inr (4, [.ref gpa, .int (nI om)])), (gpa, .inl (cI, 150, .inl op)), (gt, .inr (4, [.ref gta, .int (nI on)])), (gta, .inl (cI, 300, .inl ot)), (ge, .inl (cI, 301, .inl fe)), (gd, .inl (cI, 301, .inl fd)), (gs, .inl (cI, 301, .inl fs)), (gn, .inl (cI, 151, .inl fn)), (gl, .inl (cI, 151, .inl fl))] sz) ([(x, .inr (5, [.ref xp, .ref xt, .ref so, .ref g, .ref sc, .ref fo, .int (-1)])), (xp, .inr (4, [.ref xpa, .int (nI mm)])), (xpa, .inl (cI, 150, .inl pp)), (xt, .inr (4, [.ref xta, .int (nI nn)])), (xta, .inl (cI, 300, .inl tt)), (g, .inr (0, [.ref gp, .ref gt, .ref ge, .ref gd, .ref gs, .int (nI ((px_fnd mm nn (va_cpy pp op 0 0 mm) (va_cpy tt ot 0 0 nn) mode bound (cnt, fe, fd, fs) nn).1)), .ref gn, .ref gl])), (gp, .inr (4, [.ref gpa, .int (nI mm)])), (gpa, .inl (cI, 150, .inl (va_cpy pp op 0 0 mm))), (gt, .inr (4, [.ref gta, .int (nI nn)])), (gta, .inl (cI, 300, .inl (va_cpy tt ot 0 0 nn))), (ge, .inl (cI, 301, .inl ((px_fnd mm nn (va_cpy pp op 0 0 mm) (va_cpy tt ot 0 0 nn) mode bound (cnt, fe, fd, fs) nn).2.1))), (gd, .inl (cI, 301, .inl ((px_fnd mm nn (va_cpy pp op 0 0 mm) (va_cpy tt ot 0 0 nn) mode bound (cnt, fe, fd, fs) nn).2.2.1))), (gs, .inl (cI, 301, .inl ((px_fnd mm nn (va_cpy pp op 0 0 mm) (va_cpy tt ot 0 0 nn) mode bound (cnt, fe, fd, fs) nn).2.2.2))), (gn, .inl (cI, 151, .inl u.1)), (gl, .inl (cI, 151, .inl u.2))])) (va_A [(x, .inr (5, [.ref xp, .ref xt, .ref so, .ref g, .ref sc, .ref fo, .int sof])), (xp, .inr (4, [.ref xpa, .int (nI mm)])), (xpa, .inl (cI, 150, .inl pp)), (xt, .inr (4, [.ref xta, .int (nI nn)])), (xta, .inl (cI, 300, .inl tt)), (g, .inr (0, [.ref gp, .ref gt, .ref ge, .ref gd, .ref gs, .int (nI cnt), .ref gn, .ref gl])), (gp, .inr (4, [.ref gpa, .int (nI om)])), (gpa, .inl (cI, 150, .inl op)), (gt, .inr (4, [.ref gta, .int (nI on)])), (gta, .inl (cI, 300, .inl ot)), (ge, .inl (cI, 301, .inl fe)), (gd, .inl (cI, 301, .inl fd)), (gs, .inl (cI, 301, .inl fs)), (gn, .inl (cI, 151, .inl fn)), (gl, .inl (cI, 151, .inl fl))] sz)) 0 0 (va_A [(x, .inr (5, [.ref xp, .ref xt, .ref so, .ref g, .ref sc, .ref fo, .int sof])), (xp, .inr (4, [.ref xpa, .int (nI mm)])), (xpa, .inl (cI, 150, .inl pp)), (xt, .inr (4, [.ref xta, .int (nI nn)])), (xta, .inl (cI, 300, .inl tt)), (g, .inr (0, [.ref gp, .ref gt, .ref ge, .ref gd, .ref gs, .int (nI cnt), .ref gn, .ref gl])), (gp, .inr (4, [.ref gpa, .int (nI om)])), (gpa, .inl (cI, 150, .inl op)), (gt, .inr (4, [.ref gta, .int (nI on)])), (gta, .inl (cI, 300, .inl ot)), (ge, .inl (cI, 301, .inl fe)), (gd, .inl (cI, 301, .inl fd)), (gs, .inl (cI, 301, .inl fs)), (gn, .inl (cI, 151, .inl fn)), (gl, .inl (cI, 151, .inl fl))] sz) := by
  refine Met.ofW (cc := cX5_search) (maxL := 3) (ret := (some .int)) (by decide) rfl ?_
  intro p e s m args below meth c s₁ B hml hv
  obtain ⟨rfl, hsz, hP, hK, hD0⟩ := hv
  have hx := B.exec
  have hb := B.bytes
  have hr := B.returns
  have hts := atoms_spec (ws := wsX5_search) B.pre
  have hown : s.vm.findClass RX5 = some m.cls := findClass_of_methodNamed B.named
  have hlocks := B.notSynchronized
  subst hsz
  have hD := hD0.self (sz := s.heap.size)
  generalize hAe : va_A [(x, .inr (5, [.ref xp, .ref xt, .ref so, .ref g, .ref sc, .ref fo, .int sof])), (xp, .inr (4, [.ref xpa, .int (nI mm)])), (xpa, .inl (cI, 150, .inl pp)), (xt, .inr (4, [.ref xta, .int (nI nn)])), (xta, .inl (cI, 300, .inl tt)), (g, .inr (0, [.ref gp, .ref gt, .ref ge, .ref gd, .ref gs, .int (nI cnt), .ref gn, .ref gl])), (gp, .inr (4, [.ref gpa, .int (nI om)])), (gpa, .inl (cI, 150, .inl op)), (gt, .inr (4, [.ref gta, .int (nI on)])), (gta, .inl (cI, 300, .inl ot)), (ge, .inl (cI, 301, .inl fe)), (gd, .inl (cI, 301, .inl fd)), (gs, .inl (cI, 301, .inl fs)), (gn, .inl (cI, 151, .inl fn)), (gl, .inl (cI, 151, .inl fl))] s.heap.size = A at hD ⊢
  have hA : ∀ q : Nat, s.heap.size ≤ q → A q := fun q h => by rw [← hAe]; exact Or.inr h
  have hl := lv_entry ([.ref x, .int mode, .int bound]) (n := 3) (Nat.le_of_ble_eq_true rfl)
  rw [lg_entry_eq]
  generalize (lg_sl ([.ref x, .int mode, .int bound]) ++ List.replicate (3 - (lg_sl ([.ref x, .int mode, .int bound])).length) Slot.unset).toArray = ls at hl ⊢
  have hl : lv_has ls 3 [(0, .ref x), (1, .int mode), (2, .int bound)] := hl
  refine hv_start (A := A) (ws := [(x, .inr (5, [.ref xp, .ref xt, .ref so, .ref g, .ref sc, .ref fo, .int sof])), (xp, .inr (4, [.ref xpa, .int (nI mm)])), (xpa, .inl (cI, 150, .inl pp)), (xt, .inr (4, [.ref xta, .int (nI nn)])), (xta, .inl (cI, 300, .inl tt)), (g, .inr (0, [.ref gp, .ref gt, .ref ge, .ref gd, .ref gs, .int (nI cnt), .ref gn, .ref gl])), (gp, .inr (4, [.ref gpa, .int (nI om)])), (gpa, .inl (cI, 150, .inl op)), (gt, .inr (4, [.ref gta, .int (nI on)])), (gta, .inl (cI, 300, .inl ot)), (ge, .inl (cI, 301, .inl fe)), (gd, .inl (cI, 301, .inl fd)), (gs, .inl (cI, 301, .inl fs)), (gn, .inl (cI, 151, .inl fn)), (gl, .inl (cI, 151, .inl fl))]) hP (fun H locs hP hS => ?_)
  have w_0 := hts (.fieldLink RX5 31 "TextAligner" "findings" "LTextAligner$Findings;") (by decide +kernel)
  have i_X5 : ∀ w ∈ wsX50, w ∈ wsX5_search := by decide +kernel
  have w_2 := hts (.fieldLink RX5 14 "TextAligner" "pattern" "LTextAligner$SignRow;") (by decide +kernel)
  have w_3 := hts (.fieldLink RX5 18 "TextAligner" "text" "LTextAligner$SignRow;") (by decide +kernel)
  have w_4 := hts (.fieldLink RX5 49 "TextAligner" "scriptOf" "I") (by decide +kernel)
  refine lv_iload_n hx hb dX5_search_0 rfl (lv_at hl 1 rfl) ?_
  refine lv_if_lt (tgt := 9) hx hb dX5_search_1 (by decide) (fun c_1 => ?_) (fun c_1 => ?_)
  · exfalso; grind
  · refine lv_iload_n hx hb dX5_search_4 rfl (lv_at hl 1 rfl) ?_
    refine lv_iconst (v := 2) hx hb dX5_search_5 (by decide) ?_
    refine lv_icmp_le (tgt := 19) hx hb dX5_search_6 (by decide) (fun c_6 => ?_) (fun c_6 => ?_)
    · refine lv_iload_n hx hb dX5_search_19 rfl (lv_at hl 2 rfl) ?_
      refine lv_if_lt (tgt := 30) hx hb dX5_search_20 (by decide) (fun c_20 => ?_) (fun c_20 => ?_)
      · exfalso; grind
      · refine lv_iload_n hx hb dX5_search_23 rfl (lv_at hl 2 rfl) ?_
        refine lv_sipush (v := 450) hx hb dX5_search_24 (by decide) ?_
        refine lv_icmp_le (tgt := 40) hx hb dX5_search_27 (by decide) (fun c_27 => ?_) (fun c_27 => ?_)
        · refine lv_aload_n hx hb dX5_search_40 rfl (lv_at hl 0 rfl) ?_
          refine va_get (D := D) (ci := 5) (v := .ref g) (C := RX5) (T := TX5) (N := 7) hx hb hts i_X5 hown hK hP 0 rfl rfl 3 (by decide) w_0 (fun _ h9 => h9) rfl dX5_search_41 ?_
          refine lv_aload_n hx hb dX5_search_44 rfl (lv_at hl 0 rfl) ?_
          refine va_get (D := D) (ci := 5) (v := .ref xp) (C := RX5) (T := TX5) (N := 7) hx hb hts i_X5 hown hK hP 0 rfl rfl 0 (by decide) w_2 (fun _ h9 => h9) rfl dX5_search_45 ?_
          refine lv_aload_n hx hb dX5_search_48 rfl (lv_at hl 0 rfl) ?_
          refine va_get (D := D) (ci := 5) (v := .ref xt) (C := RX5) (T := TX5) (N := 7) hx hb hts i_X5 hown hK hP 0 rfl rfl 1 (by decide) w_3 (fun _ h9 => h9) rfl dX5_search_49 ?_
          refine lv_iload_n hx hb dX5_search_52 rfl (lv_at hl 1 rfl) ?_
          refine lv_iload_n hx hb dX5_search_53 rfl (lv_at hl 2 rfl) ?_
          have fr := fr_x (wc := [(g, .inr (0, [.ref gp, .ref gt, .ref ge, .ref gd, .ref gs, .int (nI cnt), .ref gn, .ref gl])), (gp, .inr (4, [.ref gpa, .int (nI om)])), (gpa, .inl (cI, 150, .inl op)), (gt, .inr (4, [.ref gta, .int (nI on)])), (gta, .inl (cI, 300, .inl ot)), (ge, .inl (cI, 301, .inl fe)), (gd, .inl (cI, 301, .inl fd)), (gs, .inl (cI, 301, .inl fs)), (gn, .inl (cI, 151, .inl fn)), (gl, .inl (cI, 151, .inl fl)), (xp, .inr (4, [.ref xpa, .int (nI mm)])), (xpa, .inl (cI, 150, .inl pp)), (xt, .inr (4, [.ref xta, .int (nI nn)])), (xta, .inl (cI, 300, .inl tt))]) (wr := [(x, .inr (5, [.ref xp, .ref xt, .ref so, .ref g, .ref sc, .ref fo, .int sof]))]) hP hD hS hA [5, 6, 7, 8, 9, 10, 11, 12, 13, 14, 1, 2, 3, 4] [0] rfl rfl (by decide) (by decide) (by decide)
          refine cv_v (J := fun u => [(x, .inr (5, [.ref xp, .ref xt, .ref so, .ref g, .ref sc, .ref fo, .int sof])), (xp, .inr (4, [.ref xpa, .int (nI mm)])), (xpa, .inl (cI, 150, .inl pp)), (xt, .inr (4, [.ref xta, .int (nI nn)])), (xta, .inl (cI, 300, .inl tt)), (g, .inr (0, [.ref gp, .ref gt, .ref ge, .ref gd, .ref gs, .int (nI ((px_fnd mm nn (va_cpy pp op 0 0 mm) (va_cpy tt ot 0 0 nn) mode bound (cnt, fe, fd, fs) nn).1)), .ref gn, .ref gl])), (gp, .inr (4, [.ref gpa, .int (nI mm)])), (gpa, .inl (cI, 150, .inl (va_cpy pp op 0 0 mm))), (gt, .inr (4, [.ref gta, .int (nI nn)])), (gta, .inl (cI, 300, .inl (va_cpy tt ot 0 0 nn))), (ge, .inl (cI, 301, .inl ((px_fnd mm nn (va_cpy pp op 0 0 mm) (va_cpy tt ot 0 0 nn) mode bound (cnt, fe, fd, fs) nn).2.1))), (gd, .inl (cI, 301, .inl ((px_fnd mm nn (va_cpy pp op 0 0 mm) (va_cpy tt ot 0 0 nn) mode bound (cnt, fe, fd, fs) nn).2.2.1))), (gs, .inl (cI, 301, .inl ((px_fnd mm nn (va_cpy pp op 0 0 mm) (va_cpy tt ot 0 0 nn) mode bound (cnt, fe, fd, fs) nn).2.2.2))), (gn, .inl (cI, 151, .inl u.1)), (gl, .inl (cI, 151, .inl u.2))]) (As := [.ref xp, .ref xt, .int mode, .int bound]) (rest := []) (q0 := 0) (ci := 0) ⟨hx, hb, hml, hown, hts⟩ (c_X0_lookFor l D cI cJ cL H.size g gp gpa gt gta ge gd gs gn gl om on cnt op ot fe fd fs fn fl xp xpa xt xta mm nn pp tt mode bound hmm hnn) (cwV 4 hts gX5_search_X0_lookFor rfl rfl rfl (by decide +kernel) ⟨Nat.le_of_ble_eq_true rfl, Nat.le_of_ble_eq_true rfl⟩) hK fr.1 fr.2.1 fr.2.2.1 (fun H1 u hk h1 h2 => ⟨(fr.2.2.2 _ H1 hk h1 h2).1.sub [0, 11, 12, 13, 14, 1, 2, 3, 4, 5, 6, 7, 8, 9, 10] rfl, (fr.2.2.2 _ H1 hk h1 h2).2.sub [0, 11, 12, 13, 14, 1, 2, 3, 4, 5, 6, 7, 8, 9, 10] (by decide) rfl⟩) hS rfl rfl rfl rfl hl.1 rfl (Nat.le_of_ble_eq_true rfl) dX5_search_54 ⟨Nat.zero_le _, Nat.zero_le _⟩ (fun u_1 H locs hw hP hD hS => ?_)
          refine lv_aload_n hx hb dX5_search_57 rfl (lv_at hl 0 rfl) ?_
          refine lv_iconst (v := (-1)) hx hb dX5_search_58 (by decide) ?_
          refine va_put (D := D) (ci := 5) (v := .int (-1)) (ty := .int) (C := RX5) (T := TX5) (N := 7) hx hb hts i_X5 tyX5 tyX5_ok nmX5 hown hK hP hD hS 0 rfl rfl 6 (by decide) w_4 (fun _ h9 => h9) rfl (by decide +kernel) rfl rfl (Nat.le_of_ble_eq_true rfl) dX5_search_59 (fun H locs hP hD hS => ?_)
          have hP : va_P D vwCl [(x, .inr (5, [.ref xp, .ref xt, .ref so, .ref g, .ref sc, .ref fo, .int (-1)])), (xp, .inr (4, [.ref xpa, .int (nI mm)])), (xpa, .inl (cI, 150, .inl pp)), (xt, .inr (4, [.ref xta, .int (nI nn)])), (xta, .inl (cI, 300, .inl tt)), (g, .inr (0, [.ref gp, .ref gt, .ref ge, .ref gd, .ref gs, .int (nI ((px_fnd mm nn (va_cpy pp op 0 0 mm) (va_cpy tt ot 0 0 nn) mode bound (cnt, fe, fd, fs) nn).1)), .ref gn, .ref gl])), (gp, .inr (4, [.ref gpa, .int (nI mm)])), (gpa, .inl (cI, 150, .inl (va_cpy pp op 0 0 mm))), (gt, .inr (4, [.ref gta, .int (nI nn)])), (gta, .inl (cI, 300, .inl (va_cpy tt ot 0 0 nn))), (ge, .inl (cI, 301, .inl ((px_fnd mm nn (va_cpy pp op 0 0 mm) (va_cpy tt ot 0 0 nn) mode bound (cnt, fe, fd, fs) nn).2.1))), (gd, .inl (cI, 301, .inl ((px_fnd mm nn (va_cpy pp op 0 0 mm) (va_cpy tt ot 0 0 nn) mode bound (cnt, fe, fd, fs) nn).2.2.1))), (gs, .inl (cI, 301, .inl ((px_fnd mm nn (va_cpy pp op 0 0 mm) (va_cpy tt ot 0 0 nn) mode bound (cnt, fe, fd, fs) nn).2.2.2))), (gn, .inl (cI, 151, .inl u_1.1)), (gl, .inl (cI, 151, .inl u_1.2))] H := hP
          have hD : va_D A [(x, .inr (5, [.ref xp, .ref xt, .ref so, .ref g, .ref sc, .ref fo, .int (-1)])), (xp, .inr (4, [.ref xpa, .int (nI mm)])), (xpa, .inl (cI, 150, .inl pp)), (xt, .inr (4, [.ref xta, .int (nI nn)])), (xta, .inl (cI, 300, .inl tt)), (g, .inr (0, [.ref gp, .ref gt, .ref ge, .ref gd, .ref gs, .int (nI ((px_fnd mm nn (va_cpy pp op 0 0 mm) (va_cpy tt ot 0 0 nn) mode bound (cnt, fe, fd, fs) nn).1)), .ref gn, .ref gl])), (gp, .inr (4, [.ref gpa, .int (nI mm)])), (gpa, .inl (cI, 150, .inl (va_cpy pp op 0 0 mm))), (gt, .inr (4, [.ref gta, .int (nI nn)])), (gta, .inl (cI, 300, .inl (va_cpy tt ot 0 0 nn))), (ge, .inl (cI, 301, .inl ((px_fnd mm nn (va_cpy pp op 0 0 mm) (va_cpy tt ot 0 0 nn) mode bound (cnt, fe, fd, fs) nn).2.1))), (gd, .inl (cI, 301, .inl ((px_fnd mm nn (va_cpy pp op 0 0 mm) (va_cpy tt ot 0 0 nn) mode bound (cnt, fe, fd, fs) nn).2.2.1))), (gs, .inl (cI, 301, .inl ((px_fnd mm nn (va_cpy pp op 0 0 mm) (va_cpy tt ot 0 0 nn) mode bound (cnt, fe, fd, fs) nn).2.2.2))), (gn, .inl (cI, 151, .inl u_1.1)), (gl, .inl (cI, 151, .inl u_1.2))] := hD
          refine lv_aload_n hx hb dX5_search_62 rfl (lv_at hl 0 rfl) ?_
          refine va_get (D := D) (ci := 5) (v := .ref g) (C := RX5) (T := TX5) (N := 7) hx hb hts i_X5 hown hK hP 0 rfl rfl 3 (by decide) w_0 (fun _ h9 => h9) rfl dX5_search_63 ?_
          have fr := fr_x (wc := [(g, .inr (0, [.ref gp, .ref gt, .ref ge, .ref gd, .ref gs, .int (nI ((px_fnd mm nn (va_cpy pp op 0 0 mm) (va_cpy tt ot 0 0 nn) mode bound (cnt, fe, fd, fs) nn).1)), .ref gn, .ref gl])), (gp, .inr (4, [.ref gpa, .int (nI mm)])), (gpa, .inl (cI, 150, .inl (va_cpy pp op 0 0 mm))), (gt, .inr (4, [.ref gta, .int (nI nn)])), (gta, .inl (cI, 300, .inl (va_cpy tt ot 0 0 nn))), (ge, .inl (cI, 301, .inl ((px_fnd mm nn (va_cpy pp op 0 0 mm) (va_cpy tt ot 0 0 nn) mode bound (cnt, fe, fd, fs) nn).2.1))), (gd, .inl (cI, 301, .inl ((px_fnd mm nn (va_cpy pp op 0 0 mm) (va_cpy tt ot 0 0 nn) mode bound (cnt, fe, fd, fs) nn).2.2.1))), (gs, .inl (cI, 301, .inl ((px_fnd mm nn (va_cpy pp op 0 0 mm) (va_cpy tt ot 0 0 nn) mode bound (cnt, fe, fd, fs) nn).2.2.2))), (gn, .inl (cI, 151, .inl u_1.1)), (gl, .inl (cI, 151, .inl u_1.2))]) (wr := [(x, .inr (5, [.ref xp, .ref xt, .ref so, .ref g, .ref sc, .ref fo, .int (-1)])), (xp, .inr (4, [.ref xpa, .int (nI mm)])), (xpa, .inl (cI, 150, .inl pp)), (xt, .inr (4, [.ref xta, .int (nI nn)])), (xta, .inl (cI, 300, .inl tt))]) hP hD hS hA [5, 6, 7, 8, 9, 10, 11, 12, 13, 14] [0, 1, 2, 3, 4] rfl rfl (by decide) (by decide) (by decide)
          refine cv_i (J := fun _ => [(x, .inr (5, [.ref xp, .ref xt, .ref so, .ref g, .ref sc, .ref fo, .int (-1)])), (xp, .inr (4, [.ref xpa, .int (nI mm)])), (xpa, .inl (cI, 150, .inl pp)), (xt, .inr (4, [.ref xta, .int (nI nn)])), (xta, .inl (cI, 300, .inl tt)), (g, .inr (0, [.ref gp, .ref gt, .ref ge, .ref gd, .ref gs, .int (nI ((px_fnd mm nn (va_cpy pp op 0 0 mm) (va_cpy tt ot 0 0 nn) mode bound (cnt, fe, fd, fs) nn).1)), .ref gn, .ref gl])), (gp, .inr (4, [.ref gpa, .int (nI mm)])), (gpa, .inl (cI, 150, .inl (va_cpy pp op 0 0 mm))), (gt, .inr (4, [.ref gta, .int (nI nn)])), (gta, .inl (cI, 300, .inl (va_cpy tt ot 0 0 nn))), (ge, .inl (cI, 301, .inl ((px_fnd mm nn (va_cpy pp op 0 0 mm) (va_cpy tt ot 0 0 nn) mode bound (cnt, fe, fd, fs) nn).2.1))), (gd, .inl (cI, 301, .inl ((px_fnd mm nn (va_cpy pp op 0 0 mm) (va_cpy tt ot 0 0 nn) mode bound (cnt, fe, fd, fs) nn).2.2.1))), (gs, .inl (cI, 301, .inl ((px_fnd mm nn (va_cpy pp op 0 0 mm) (va_cpy tt ot 0 0 nn) mode bound (cnt, fe, fd, fs) nn).2.2.2))), (gn, .inl (cI, 151, .inl u_1.1)), (gl, .inl (cI, 151, .inl u_1.2))]) (As := []) (rest := []) (q0 := 0) (ci := 0) ⟨hx, hb, hml, hown, hts⟩ (c_X0_size l D cI cJ cL H.size g gp gpa gt gta ge gd gs gn gl mm nn ((px_fnd mm nn (va_cpy pp op 0 0 mm) (va_cpy tt ot 0 0 nn) mode bound (cnt, fe, fd, fs) nn).1) (va_cpy pp op 0 0 mm) (va_cpy tt ot 0 0 nn) ((px_fnd mm nn (va_cpy pp op 0 0 mm) (va_cpy tt ot 0 0 nn) mode bound (cnt, fe, fd, fs) nn).2.1) ((px_fnd mm nn (va_cpy pp op 0 0 mm) (va_cpy tt ot 0 0 nn) mode bound (cnt, fe, fd, fs) nn).2.2.1) ((px_fnd mm nn (va_cpy pp op 0 0 mm) (va_cpy tt ot 0 0 nn) mode bound (cnt, fe, fd, fs) nn).2.2.2) u_1.1 u_1.2 ) (cwV 0 hts gX5_search_X0_size rfl rfl rfl (by decide +kernel) ⟨Nat.le_of_ble_eq_true rfl, Nat.le_of_ble_eq_true rfl⟩) hK fr.1 fr.2.1 fr.2.2.1 (fun H1 u hk h1 h2 => ⟨(fr.2.2.2 _ H1 hk h1 h2).1.sub [0, 1, 2, 3, 4, 5, 6, 7, 8, 9, 10, 11, 12, 13, 14] rfl, (fr.2.2.2 _ H1 hk h1 h2).2.sub [0, 1, 2, 3, 4, 5, 6, 7, 8, 9, 10, 11, 12, 13, 14] (by decide) rfl⟩) hS rfl rfl rfl rfl hl.1 rfl (Nat.le_of_ble_eq_true rfl) dX5_search_66 ⟨Nat.zero_le _, Nat.zero_le _⟩ (fun r_4 u_3 H locs hw hP hD hS => ?_)
          subst hw
          exact fin_i u_1 hx hb hr hlocks dX5_search_69 hK hS hP hD rfl
        · exfalso; grind
    · exfalso; grind

set_option maxHeartbeats 4000000 in
set_option maxRecDepth 100000 in
theorem c_X5_least (l : Launch) (D : va_G) (cI cJ cL : ClassId) (sz : Nat) (x : Nat) (xp : Nat) (xt : Nat) (so : Nat) (g : Nat) (sc : Nat) (fo : Nat) (sof : Int32) (gp : Nat) (gpa : Nat) (gt : Nat) (gta : Nat) (ge : Nat) (gd : Nat) (gs : Nat) (gn : Nat) (gl : Nat) (om : Nat) (on : Nat) (cnt : Nat) (op : Nat → Int32) (ot : Nat → Int32) (fe : Nat → Int32) (fd : Nat → Int32) (fs : Nat → Int32) (fn : Nat → Int32) (fl : Nat → Int32) (hcnt : cnt ≤ 301) :
    Met l yX5_least wsX5_least { frames := 1, cells := 0, slots := 0, locals := 22 } (va_Pc [.ref x] (Wd D [(cI, .int), (cJ, .array .int), (cL, .long)] [(x, .inr (5, [.ref xp, .ref xt, .ref so, .ref g, .ref sc, .ref fo, .int sof])), (g, .inr (0, [.ref gp, .ref gt, .ref ge, .ref gd, .ref gs, .int (nI cnt), .ref gn, .ref gl])), (gp, .inr (4, [.ref gpa, .int (nI om)])), (gpa, .inl (cI, 150, .inl op)), (gt, .inr (4, [.ref gta, .int (nI on)])), (gta, .inl (cI, 300, .inl ot)), (ge, .inl (cI, 301, .inl fe)), (gd, .inl (cI, 301, .inl fd)), (gs, .inl (cI, 301, .inl fs)), (gn, .inl (cI, 151, .inl fn)), (gl, .inl (cI, 151, .inl fl))] sz))
      (va_Qi (fun (r : Int32) (_ : Unit) => r = px_least fd cnt) (fun _ => Wa D [(cI, .int), (cJ, .array .int), (cL, .long)] (va_A [(x, .inr (5, [.ref xp, .ref xt, .ref so, .ref g, .ref sc, .ref fo, .int sof])), (g, .inr (0, [.ref gp, .ref gt, .ref ge, .ref gd, .ref gs, .int (nI cnt), .ref gn, .ref gl])), (gp, .inr (4, [.ref gpa, .int (nI om)])), (gpa, .inl (cI, 150, .inl op)), (gt, .inr (4, [.ref gta, .int (nI on)])), (gta, .inl (cI, 300, .inl ot)), (ge, .inl (cI, 301, .inl fe)), (gd, .inl (cI, 301, .inl fd)), (gs, .inl (cI, 301, .inl fs)), (gn, .inl (cI, 151, .inl fn)), (gl, .inl (cI, 151, .inl fl))] sz) ([(x, .inr (5, [.ref xp, .ref xt, .ref so, .ref g, .ref sc, .ref fo, .int sof])), (g, .inr (0, [.ref gp, .ref gt, .ref ge, .ref gd, .ref gs, .int (nI cnt), .ref gn, .ref gl])), (gp, .inr (4, [.ref gpa, .int (nI om)])), (gpa, .inl (cI, 150, .inl op)), (gt, .inr (4, [.ref gta, .int (nI on)])), (gta, .inl (cI, 300, .inl ot)), (ge, .inl (cI, 301, .inl fe)), (gd, .inl (cI, 301, .inl fd)), (gs, .inl (cI, 301, .inl fs)), (gn, .inl (cI, 151, .inl fn)), (gl, .inl (cI, 151, .inl fl))])) (va_A [(x, .inr (5, [.ref xp, .ref xt, .ref so, .ref g, .ref sc, .ref fo, .int sof])), (g, .inr (0, [.ref gp, .ref gt, .ref ge, .ref gd, .ref gs, .int (nI cnt), .ref gn, .ref gl])), (gp, .inr (4, [.ref gpa, .int (nI om)])), (gpa, .inl (cI, 150, .inl op)), (gt, .inr (4, [.ref gta, .int (nI on)])), (gta, .inl (cI, 300, .inl ot)), (ge, .inl (cI, 301, .inl fe)), (gd, .inl (cI, 301, .inl fd)), (gs, .inl (cI, 301, .inl fs)), (gn, .inl (cI, 151, .inl fn)), (gl, .inl (cI, 151, .inl fl))] sz)) 0 0 (va_A [(x, .inr (5, [.ref xp, .ref xt, .ref so, .ref g, .ref sc, .ref fo, .int sof])), (g, .inr (0, [.ref gp, .ref gt, .ref ge, .ref gd, .ref gs, .int (nI cnt), .ref gn, .ref gl])), (gp, .inr (4, [.ref gpa, .int (nI om)])), (gpa, .inl (cI, 150, .inl op)), (gt, .inr (4, [.ref gta, .int (nI on)])), (gta, .inl (cI, 300, .inl ot)), (ge, .inl (cI, 301, .inl fe)), (gd, .inl (cI, 301, .inl fd)), (gs, .inl (cI, 301, .inl fs)), (gn, .inl (cI, 151, .inl fn)), (gl, .inl (cI, 151, .inl fl))] sz) := by
  refine Met.ofW (cc := cX5_least) (maxL := 1) (ret := (some .int)) (by decide) rfl ?_
  intro p e s m args below meth c s₁ B hml hv
  obtain ⟨rfl, hsz, hP, hK, hD0⟩ := hv
  have hx := B.exec
  have hb := B.bytes
  have hr := B.returns
  have hts := atoms_spec (ws := wsX5_least) B.pre
  have hown : s.vm.findClass RX5 = some m.cls := findClass_of_methodNamed B.named
  have hlocks := B.notSynchronized
  subst hsz
  have hD := hD0.self (sz := s.heap.size)
  generalize hAe : va_A [(x, .inr (5, [.ref xp, .ref xt, .ref so, .ref g, .ref sc, .ref fo, .int sof])), (g, .inr (0, [.ref gp, .ref gt, .ref ge, .ref gd, .ref gs, .int (nI cnt), .ref gn, .ref gl])), (gp, .inr (4, [.ref gpa, .int (nI om)])), (gpa, .inl (cI, 150, .inl op)), (gt, .inr (4, [.ref gta, .int (nI on)])), (gta, .inl (cI, 300, .inl ot)), (ge, .inl (cI, 301, .inl fe)), (gd, .inl (cI, 301, .inl fd)), (gs, .inl (cI, 301, .inl fs)), (gn, .inl (cI, 151, .inl fn)), (gl, .inl (cI, 151, .inl fl))] s.heap.size = A at hD ⊢
  have hA : ∀ q : Nat, s.heap.size ≤ q → A q := fun q h => by rw [← hAe]; exact Or.inr h
  have hl := lv_entry ([.ref x]) (n := 1) (Nat.le_of_ble_eq_true rfl)
  rw [lg_entry_eq]
  generalize (lg_sl ([.ref x]) ++ List.replicate (1 - (lg_sl ([.ref x])).length) Slot.unset).toArray = ls at hl ⊢
  have hl : lv_has ls 1 [(0, .ref x)] := hl
  refine hv_start (A := A) (ws := [(x, .inr (5, [.ref xp, .ref xt, .ref so, .ref g, .ref sc, .ref fo, .int sof])), (g, .inr (0, [.ref gp, .ref gt, .ref ge, .ref gd, .ref gs, .int (nI cnt), .ref gn, .ref gl])), (gp, .inr (4, [.ref gpa, .int (nI om)])), (gpa, .inl (cI, 150, .inl op)), (gt, .inr (4, [.ref gta, .int (nI on)])), (gta, .inl (cI, 300, .inl ot)), (ge, .inl (cI, 301, .inl fe)), (gd, .inl (cI, 301, .inl fd)), (gs, .inl (cI, 301, .inl fs)), (gn, .inl (cI, 151, .inl fn)), (gl, .inl (cI, 151, .inl fl))]) hP (fun H locs hP hS => ?_)
  have w_0 := hts (.fieldLink RX5 31 "TextAligner" "findings" "LTextAligner$Findings;") (by decide +kernel)
  have i_X5 : ∀ w ∈ wsX50, w ∈ wsX5_least := by decide +kernel
  refine lv_aload_n hx hb dX5_least_0 rfl (lv_at hl 0 rfl) ?_
  refine va_get (D := D) (ci := 5) (v := .ref g) (C := RX5) (T := TX5) (N := 7) hx hb hts i_X5 hown hK hP 0 rfl rfl 3 (by decide) w_0 (fun _ h9 => h9) rfl dX5_least_1 ?_
  have fr := fr_x (wc := [(g, .inr (0, [.ref gp, .ref gt, .ref ge, .ref gd, .ref gs, .int (nI cnt), .ref gn, .ref gl])), (gp, .inr (4, [.ref gpa, .int (nI om)])), (gpa, .inl (cI, 150, .inl op)), (gt, .inr (4, [.ref gta, .int (nI on)])), (gta, .inl (cI, 300, .inl ot)), (ge, .inl (cI, 301, .inl fe)), (gd, .inl (cI, 301, .inl fd)), (gs, .inl (cI, 301, .inl fs)), (gn, .inl (cI, 151, .inl fn)), (gl, .inl (cI, 151, .inl fl))]) (wr := [(x, .inr (5, [.ref xp, .ref xt, .ref so, .ref g, .ref sc, .ref fo, .int sof]))]) hP hD hS hA [1, 2, 3, 4, 5, 6, 7, 8, 9, 10] [0] rfl rfl (by decide) (by decide) (by decide)
  refine cv_i (J := fun _ => [(x, .inr (5, [.ref xp, .ref xt, .ref so, .ref g, .ref sc, .ref fo, .int sof])), (g, .inr (0, [.ref gp, .ref gt, .ref ge, .ref gd, .ref gs, .int (nI cnt), .ref gn, .ref gl])), (gp, .inr (4, [.ref gpa, .int (nI om)])), (gpa, .inl (cI, 150, .inl op)), (gt, .inr (4, [.ref gta, .int (nI on)])), (gta, .inl (cI, 300, .inl ot)), (ge, .inl (cI, 301, .inl fe)), (gd, .inl (cI, 301, .inl fd)), (gs, .inl (cI, 301, .inl fs)), (gn, .inl (cI, 151, .inl fn)), (gl, .inl (cI, 151, .inl fl))]) (As := []) (rest := []) (q0 := 0) (ci := 0) ⟨hx, hb, hml, hown, hts⟩ (c_X0_leastDistance l D cI cJ cL H.size g gp gpa gt gta ge gd gs gn gl om on cnt op ot fe fd fs fn fl (by omega)) (cwV 0 hts gX5_least_X0_leastDistance rfl rfl rfl (by decide +kernel) ⟨Nat.le_of_ble_eq_true rfl, Nat.le_of_ble_eq_true rfl⟩) hK fr.1 fr.2.1 fr.2.2.1 (fun H1 u hk h1 h2 => ⟨(fr.2.2.2 _ H1 hk h1 h2).1.sub [0, 1, 2, 3, 4, 5, 6, 7, 8, 9, 10] rfl, (fr.2.2.2 _ H1 hk h1 h2).2.sub [0, 1, 2, 3, 4, 5, 6, 7, 8, 9, 10] (by decide) rfl⟩) hS rfl rfl rfl rfl hl.1 rfl (Nat.le_of_ble_eq_true rfl) dX5_least_4 ⟨Nat.zero_le _, Nat.zero_le _⟩ (fun r_2 u_1 H locs hw hP hD hS => ?_)
  subst hw
  exact fin_i () hx hb hr hlocks dX5_least_7 hK hS hP hD rfl
