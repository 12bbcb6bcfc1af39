set_option maxHeartbeats 4000000 in
set_option maxRecDepth 100000 in
theorem c_X2_openingCost (l : Launch) (D : va_G) (cI cJ cL : ClassId) (sz : Nat) (so : Nat) (sg : Nat) (oo : Int32) (xx : Int32) (tg : Nat → Option Nat)  :
    Met l yX2_openingCost wsX2_openingCost { frames := 0, cells := 0, slots := 0, locals := 0 } (va_Pc [.ref so] (Wd D [(cI, .int), (cJ, .array .int), (cL, .long)] [(so, .inr (2, [.ref sg, .int oo, .int xx])), (sg, .inl (cJ, 8, .inr (.inr (.inr (.inr tg)))))] sz))
      (va_Qi (fun (r : Int32) (_ : Unit) => r = oo) (fun _ => Wa D [(cI, .int), (cJ, .array .int), (cL, .long)] (va_A [(so, .inr (2, [.ref sg, .int oo, .int xx])), (sg, .inl (cJ, 8, .inr (.inr (.inr (.inr tg)))))] sz) ([(so, .inr (2, [.ref sg, .int oo, .int xx])), (sg, .inl (cJ, 8, .inr (.inr (.inr (.inr tg)))))])) (va_A [(so, .inr (2, [.ref sg, .int oo, .int xx])), (sg, .inl (cJ, 8, .inr (.inr (.inr (.inr tg)))))] sz)) 0 0 (va_A [(so, .inr (2, [.ref sg, .int oo, .int xx])), (sg, .inl (cJ, 8, .inr (.inr (.inr (.inr tg)))))] sz) := by
  refine Met.ofW (cc := cX2_openingCost) (maxL := 1) (ret := (some .int)) (by decide) rfl ?_
  intro p e s m args below meth c s₁ B hml hv
  obtain ⟨rfl, hsz, hP, hK, hD0⟩ := hv
  have hx := B.exec
  have hb := B.bytes
  have hr := B.returns
  have hts := atoms_spec (ws := wsX2_openingCost) B.pre
  have hown : s.vm.findClass RX2 = some m.cls := findClass_of_methodNamed B.named
  have hlocks := B.notSynchronized
  subst hsz
  have hD := hD0.self (sz := s.heap.size)
  generalize hAe : va_A [(so, .inr (2, [.ref sg, .int oo, .int xx])), (sg, .inl (cJ, 8, .inr (.inr (.inr (.inr tg)))))] s.heap.size = A at hD ⊢
  have hA : ∀ q : Nat, s.heap.size ≤ q → A q := fun q h => by rw [← hAe]; exact Or.inr h
  have hl := lv_entry ([.ref so]) (n := 1) (Nat.le_of_ble_eq_true rfl)
  rw [lg_entry_eq]
  generalize (lg_sl ([.ref so]) ++ List.replicate (1 - (lg_sl ([.ref so])).length) Slot.unset).toArray = ls at hl ⊢
  have hl : lv_has ls 1 [(0, .ref so)] := hl
  refine hv_start (A := A) (ws := [(so, .inr (2, [.ref sg, .int oo, .int xx])), (sg, .inl (cJ, 8, .inr (.inr (.inr (.inr tg)))))]) hP (fun H locs hP hS => ?_)
  have w_0 := hts (.fieldLink RX2 16 "TextAligner$Scoring" "opening" "I") (by decide +kernel)
  have i_X2 : ∀ w ∈ wsX20, w ∈ wsX2_openingCost := by decide +kernel
  refine lv_aload_n hx hb dX2_openingCost_0 rfl (lv_at hl 0 rfl) ?_
  refine va_get (D := D) (ci := 2) (v := .int oo) (C := RX2) (T := TX2) (N := 3) hx hb hts i_X2 hown hK hP 0 rfl rfl 1 (by decide) w_0 (fun _ h9 => h9) rfl dX2_openingCost_1 ?_
  exact fin_i () hx hb hr hlocks dX2_openingCost_4 hK hS hP hD rfl

set_option maxHeartbeats 4000000 in
set_option maxRecDepth 100000 in
theorem c_X2_extensionCost (l : Launch) (D : va_G) (cI cJ cL : ClassId) (sz : Nat) (so : Nat) (sg : Nat) (oo : Int32) (xx : Int32) (tg : Nat → Option Nat)  :
    Met l yX2_extensionCost wsX2_extensionCost { frames := 0, cells := 0, slots := 0, locals := 0 } (va_Pc [.ref so] (Wd D [(cI, .int), (cJ, .array .int), (cL, .long)] [(so, .inr (2, [.ref sg, .int oo, .int xx])), (sg, .inl (cJ, 8, .inr (.inr (.inr (.inr tg)))))] sz))
      (va_Qi (fun (r : Int32) (_ : Unit) => r = xx) (fun _ => Wa D [(cI, .int), (cJ, .array .int), (cL, .long)] (va_A [(so, .inr (2, [.ref sg, .int oo, .int xx])), (sg, .inl (cJ, 8, .inr (.inr (.inr (.inr tg)))))] sz) ([(so, .inr (2, [.ref sg, .int oo, .int xx])), (sg, .inl (cJ, 8, .inr (.inr (.inr (.inr tg)))))])) (va_A [(so, .inr (2, [.ref sg, .int oo, .int xx])), (sg, .inl (cJ, 8, .inr (.inr (.inr (.inr tg)))))] sz)) 0 0 (va_A [(so, .inr (2, [.ref sg, .int oo, .int xx])), (sg, .inl (cJ, 8, .inr (.inr (.inr (.inr tg)))))] sz) := by
  refine Met.ofW (cc := cX2_extensionCost) (maxL := 1) (ret := (some .int)) (by decide) rfl ?_
  intro p e s m args below meth c s₁ B hml hv
  obtain ⟨rfl, hsz, hP, hK, hD0⟩ := hv
  have hx := B.exec
  have hb := B.bytes
  have hr := B.returns
  have hts := atoms_spec (ws := wsX2_extensionCost) B.pre
  have hown : s.vm.findClass RX2 = some m.cls := findClass_of_methodNamed B.named
  have hlocks := B.notSynchronized
  subst hsz
  have hD := hD0.self (sz := s.heap.size)
  generalize hAe : va_A [(so, .inr (2, [.ref sg, .int oo, .int xx])), (sg, .inl (cJ, 8, .inr (.inr (.inr (.inr tg)))))] s.heap.size = A at hD ⊢
  have hA : ∀ q : Nat, s.heap.size ≤ q → A q := fun q h => by rw [← hAe]; exact Or.inr h
  have hl := lv_entry ([.ref so]) (n := 1) (Nat.le_of_ble_eq_true rfl)
  rw [lg_entry_eq]
  generalize (lg_sl ([.ref so]) ++ List.replicate (1 - (lg_sl ([.ref so])).length) Slot.unset).toArray = ls at hl ⊢
  have hl : lv_has ls 1 [(0, .ref so)] := hl
  refine hv_start (A := A) (ws := [(so, .inr (2, [.ref sg, .int oo, .int xx])), (sg, .inl (cJ, 8, .inr (.inr (.inr (.inr tg)))))]) hP (fun H locs hP hS => ?_)
  have w_0 := hts (.fieldLink RX2 20 "TextAligner$Scoring" "extension" "I") (by decide +kernel)
  have i_X2 : ∀ w ∈ wsX20, w ∈ wsX2_extensionCost := by decide +kernel
  refine lv_aload_n hx hb dX2_extensionCost_0 rfl (lv_at hl 0 rfl) ?_
  refine va_get (D := D) (ci := 2) (v := .int xx) (C := RX2) (T := TX2) (N := 3) hx hb hts i_X2 hown hK hP 0 rfl rfl 2 (by decide) w_0 (fun _ h9 => h9) rfl dX2_extensionCost_1 ?_
  exact fin_i () hx hb hr hlocks dX2_extensionCost_4 hK hS hP hD rfl

set_option maxHeartbeats 4000000 in
set_option maxRecDepth 100000 in
theorem c_X2_putGapCosts (l : Launch) (D : va_G) (cI cJ cL : ClassId) (sz : Nat) (so : Nat) (sg : Nat) (oo : Int32) (xx : Int32) (tg : Nat → Option Nat) (p0 : Int32) (p1 : Int32)  :
    Met l yX2_putGapCosts wsX2_putGapCosts { frames := 0, cells := 0, slots := 0, locals := 0 } (va_Pc [.ref so, .int p0, .int p1] (Wd D [(cI, .int), (cJ, .array .int), (cL, .long)] [(so, .inr (2, [.ref sg, .int oo, .int xx])), (sg, .inl (cJ, 8, .inr (.inr (.inr (.inr tg)))))] sz))
      (va_Qv (fun (_ : Unit) => True) (fun _ => Wa D [(cI, .int), (cJ, .array .int), (cL, .long)] (va_A [(so, .inr (2, [.ref sg, .int oo, .int xx])), (sg, .inl (cJ, 8, .inr (.inr (.inr (.inr tg)))))] sz) ([(so, .inr (2, [.ref sg, .int p0, .int p1])), (sg, .inl (cJ, 8, .inr (.inr (.inr (.inr tg)))))])) (va_A [(so, .inr (2, [.ref sg, .int oo, .int xx])), (sg, .inl (cJ, 8, .inr (.inr (.inr (.inr tg)))))] sz)) 0 0 (va_A [(so, .inr (2, [.ref sg, .int oo, .int xx])), (sg, .inl (cJ, 8, .inr (.inr (.inr (.inr tg)))))] sz) := by
  refine Met.ofW (cc := cX2_putGapCosts) (maxL := 3) (ret := none) (by decide) rfl ?_
  intro p e s m args below meth c s₁ B hml hv
  obtain ⟨rfl, hsz, hP, hK, hD0⟩ := hv
  have hx := B.exec
  have hb := B.bytes
  have hr := B.returns
  have hts := atoms_spec (ws := wsX2_putGapCosts) B.pre
  have hown : s.vm.findClass RX2 = some m.cls := findClass_of_methodNamed B.named
  have hlocks := B.notSynchronized
  subst hsz
  have hD := hD0.self (sz := s.heap.size)
  generalize hAe : va_A [(so, .inr (2, [.ref sg, .int oo, .int xx])), (sg, .inl (cJ, 8, .inr (.inr (.inr (.inr tg)))))] s.heap.size = A at hD ⊢
  have hA : ∀ q : Nat, s.heap.size ≤ q → A q := fun q h => by rw [← hAe]; exact Or.inr h
  have hl := lv_entry ([.ref so, .int p0, .int p1]) (n := 3) (Nat.le_of_ble_eq_true rfl)
  rw [lg_entry_eq]
  generalize (lg_sl ([.ref so, .int p0, .int p1]) ++ List.replicate (3 - (lg_sl ([.ref so, .int p0, .int p1])).length) Slot.unset).toArray = ls at hl ⊢
  have hl : lv_has ls 3 [(0, .ref so), (1, .int p0), (2, .int p1)] := hl
  refine hv_start (A := A) (ws := [(so, .inr (2, [.ref sg, .int oo, .int xx])), (sg, .inl (cJ, 8, .inr (.inr (.inr (.inr tg)))))]) hP (fun H locs hP hS => ?_)
  have w_0 := hts (.fieldLink RX2 16 "TextAligner$Scoring" "opening" "I") (by decide +kernel)
  have i_X2 : ∀ w ∈ wsX20, w ∈ wsX2_putGapCosts := by decide +kernel
  have w_2 := hts (.fieldLink RX2 20 "TextAligner$Scoring" "extension" "I") (by decide +kernel)
  refine lv_aload_n hx hb dX2_putGapCosts_0 rfl (lv_at hl 0 rfl) ?_
  refine lv_iload_n hx hb dX2_putGapCosts_1 rfl (lv_at hl 1 rfl) ?_
  refine va_put (D := D) (ci := 2) (v := .int p0) (ty := .int) (C := RX2) (T := TX2) (N := 3) hx hb hts i_X2 tyX2 tyX2_ok nmX2 hown hK hP hD hS 0 rfl rfl 1 (by decide) w_0 (fun _ h9 => h9) rfl (by decide +kernel) rfl rfl (Nat.le_of_ble_eq_true rfl) dX2_putGapCosts_2 (fun H locs hP hD hS => ?_)
  have hP : va_P D vwCl [(so, .inr (2, [.ref sg, .int p0, .int xx])), (sg, .inl (cJ, 8, .inr (.inr (.inr (.inr tg)))))] H := hP
  have hD : va_D A [(so, .inr (2, [.ref sg, .int p0, .int xx])), (sg, .inl (cJ, 8, .inr (.inr (.inr (.inr tg)))))] := hD
  refine lv_aload_n hx hb dX2_putGapCosts_5 rfl (lv_at hl 0 rfl) ?_
  refine lv_iload_n hx hb dX2_putGapCosts_6 rfl (lv_at hl 2 rfl) ?_
  refine va_put (D := D) (ci := 2) (v := .int p1) (ty := .int) (C := RX2) (T := TX2) (N := 3) hx hb hts i_X2 tyX2 tyX2_ok nmX2 hown hK hP hD hS 0 rfl rfl 2 (by decide) w_2 (fun _ h9 => h9) rfl (by decide +kernel) rfl rfl (Nat.le_of_ble_eq_true rfl) dX2_putGapCosts_7 (fun H locs hP hD hS => ?_)
  have hP : va_P D vwCl [(so, .inr (2, [.ref sg, .int p0, .int p1])), (sg, .inl (cJ, 8, .inr (.inr (.inr (.inr tg)))))] H := hP
  have hD : va_D A [(so, .inr (2, [.ref sg, .int p0, .int p1])), (sg, .inl (cJ, 8, .inr (.inr (.inr (.inr tg)))))] := hD
  exact fin_v () hx hb hr hlocks dX2_putGapCosts_10 hK hS hP hD trivial

set_option maxHeartbeats 4000000 in
set_option maxRecDepth 100000 in
theorem c_X2_costOfGap (l : Launch) (D : va_G) (cI cJ cL : ClassId) (sz : Nat) (so : Nat) (sg : Nat) (oo : Int32) (xx : Int32) (tg : Nat → Option Nat) (j : Nat) (hj : j ≤ 1000) :
    Met l yX2_costOfGap wsX2_costOfGap { frames := 0, cells := 0, slots := 0, locals := 0 } (va_Pc [.ref so, .int (nI j)] (Wd D [(cI, .int), (cJ, .array .int), (cL, .long)] [(so, .inr (2, [.ref sg, .int oo, .int xx])), (sg, .inl (cJ, 8, .inr (.inr (.inr (.inr tg)))))] sz))
      (va_Qi (fun (r : Int32) (_ : Unit) => r = pf_gap oo xx j) (fun _ => Wa D [(cI, .int), (cJ, .array .int), (cL, .long)] (va_A [(so, .inr (2, [.ref sg, .int oo, .int xx])), (sg, .inl (cJ, 8, .inr (.inr (.inr (.inr tg)))))] sz) ([(so, .inr (2, [.ref sg, .int oo, .int xx])), (sg, .inl (cJ, 8, .inr (.inr (.inr (.inr tg)))))])) (va_A [(so, .inr (2, [.ref sg, .int oo, .int xx])), (sg, .inl (cJ, 8, .inr (.inr (.inr (.inr tg)))))] sz)) 0 0 (va_A [(so, .inr (2, [.ref sg, .int oo, .int xx])), (sg, .inl (cJ, 8, .inr (.inr (.inr (.inr tg)))))] sz) := by
  refine Met.ofW (cc := cX2_costOfGap) (maxL := 2) (ret := (some .int)) (by decide) rfl ?_
  intro p e s m args below meth c s₁ B hml hv
  obtain ⟨rfl, hsz, hP, hK, hD0⟩ := hv
  have hx := B.exec
  have hb := B.bytes
  have hr := B.returns
  have hts := atoms_spec (ws := wsX2_costOfGap) B.pre
  have hown : s.vm.findClass RX2 = some m.cls := findClass_of_methodNamed B.named
  have hlocks := B.notSynchronized
  subst hsz
  have hD := hD0.self (sz := s.heap.size)
  generalize hAe : va_A [(so, .inr (2, [.ref sg, .int oo, .int xx])), (sg, .inl (cJ, 8, .inr (.inr (.inr (.inr tg)))))] s.heap.size = A at hD ⊢
  have hA : ∀ q : Nat, s.heap.size ≤ q → A q := fun q h => by rw [← hAe]; exact Or.inr h
  have hl := lv_entry ([.ref so, .int (nI j)]) (n := 2) (Nat.le_of_ble_eq_true rfl)
  rw [lg_entry_eq]
  generalize (lg_sl ([.ref so, .int (nI j)]) ++ List.replicate (2 - (lg_sl ([.ref so, .int (nI j)])).length) Slot.unset).toArray = ls at hl ⊢
  have hl : lv_has ls 2 [(0, .ref so), (1, .int (nI j))] := hl
  refine hv_start (A := A) (ws := [(so, .inr (2, [.ref sg, .int oo, .int xx])), (sg, .inl (cJ, 8, .inr (.inr (.inr (.inr tg)))))]) hP (fun H locs hP hS => ?_)
  have w_0 := hts (.fieldLink RX2 16 "TextAligner$Scoring" "opening" "I") (by decide +kernel)
  have i_X2 : ∀ w ∈ wsX20, w ∈ wsX2_costOfGap := by decide +kernel
  have w_2 := hts (.fieldLink RX2 20 "TextAligner$Scoring" "extension" "I") (by decide +kernel)
  refine lv_iload_n hx hb dX2_costOfGap_0 rfl (lv_at hl 1 rfl) ?_
  refine lv_if_ne (tgt := 8) hx hb dX2_costOfGap_1 (by decide) (fun c_1 => ?_) (fun c_1 => ?_)
  · have k_1 : ¬ (j = 0) := fun q => c_1 ((nI_eq (a := j) (b := 0) (by omega) (by omega)).mpr q)
    refine lv_aload_n hx hb dX2_costOfGap_8 rfl (lv_at hl 0 rfl) ?_
    refine va_get (D := D) (ci := 2) (v := .int oo) (C := RX2) (T := TX2) (N := 3) hx hb hts i_X2 hown hK hP 0 rfl rfl 1 (by decide) w_0 (fun _ h9 => h9) rfl dX2_costOfGap_9 ?_
    refine lv_iload_n hx hb dX2_costOfGap_12 rfl (lv_at hl 1 rfl) ?_
    refine lv_aload_n hx hb dX2_costOfGap_13 rfl (lv_at hl 0 rfl) ?_
    refine va_get (D := D) (ci := 2) (v := .int xx) (C := RX2) (T := TX2) (N := 3) hx hb hts i_X2 hown hK hP 0 rfl rfl 2 (by decide) w_2 (fun _ h9 => h9) rfl dX2_costOfGap_14 ?_
    refine lv_imul hx hb dX2_costOfGap_17 ?_
    refine lv_iadd hx hb dX2_costOfGap_18 ?_
    exact fin_i () hx hb hr hlocks dX2_costOfGap_19 hK hS hP hD (if_neg k_1).symm
  · have k_1 : j = 0 := (nI_eq (a := j) (b := 0) (by omega) (by omega)).mp c_1
    refine lv_iconst (v := 0) hx hb dX2_costOfGap_4 (by decide) ?_
    refine lv_goto (tgt := 19) hx hb dX2_costOfGap_5 (by decide) ?_
    exact fin_i () hx hb hr hlocks dX2_costOfGap_19 hK hS hP hD (if_pos k_1).symm

set_option maxHeartbeats 4000000 in
set_option maxRecDepth 100000 in
theorem c_X2_ofKinds (l : Launch) (D : va_G) (cI cJ cL : ClassId) (sz : Nat) (so : Nat) (sg : Nat) (oo : Int32) (xx : Int32) (tg : Nat → Option Nat) (LP : List Nat) (pl : Nat → Nat) (pr : Nat → Nat → Int32) (tb : Nat → Nat → Int32) (i : Nat) (j : Nat) (hG : gr_ok tg LP pl pr 8 8 tb) (hi : i < 8) (hj : j < 8) :
    Met l yX2_ofKinds wsX2_ofKinds { frames := 0, cells := 0, slots := 0, locals := 0 } (va_Pc [.ref so, .int (nI i), .int (nI j)] (Wd D [(cI, .int), (cJ, .array .int), (cL, .long)] ([(so, .inr (2, [.ref sg, .int oo, .int xx])), (sg, .inl (cJ, 8, .inr (.inr (.inr (.inr tg)))))] ++ va_pl LP (gF cI pl pr)) sz))
      (va_Qi (fun (r : Int32) (_ : Unit) => r = tb i j) (fun _ => Wa D [(cI, .int), (cJ, .array .int), (cL, .long)] (va_A ([(so, .inr (2, [.ref sg, .int oo, .int xx])), (sg, .inl (cJ, 8, .inr (.inr (.inr (.inr tg)))))] ++ va_pl LP (gF cI pl pr)) sz) (([(so, .inr (2, [.ref sg, .int oo, .int xx])), (sg, .inl (cJ, 8, .inr (.inr (.inr (.inr tg)))))] ++ va_pl LP (gF cI pl pr)))) (va_A ([(so, .inr (2, [.ref sg, .int oo, .int xx])), (sg, .inl (cJ, 8, .inr (.inr (.inr (.inr tg)))))] ++ va_pl LP (gF cI pl pr)) sz)) 0 0 (va_A ([(so, .inr (2, [.ref sg, .int oo, .int xx])), (sg, .inl (cJ, 8, .inr (.inr (.inr (.inr tg)))))] ++ va_pl LP (gF cI pl pr)) sz) := by
  refine Met.ofW (cc := cX2_ofKinds) (maxL := 3) (ret := (some .int)) (by decide) rfl ?_
  intro p e s m args below meth c s₁ B hml hv
  obtain ⟨rfl, hsz, hP, hK, hD0⟩ := hv
  have hx := B.exec
  have hb := B.bytes
  have hr := B.returns
  have hts := atoms_spec (ws := wsX2_ofKinds) B.pre
  have hown : s.vm.findClass RX2 = some m.cls := findClass_of_methodNamed B.named
  have hlocks := B.notSynchronized
  subst hsz
  have hD := hD0.self (sz := s.heap.size)
  generalize hAe : va_A ([(so, .inr (2, [.ref sg, .int oo, .int xx])), (sg, .inl (cJ, 8, .inr (.inr (.inr (.inr tg)))))] ++ va_pl LP (gF cI pl pr)) s.heap.size = A at hD ⊢
  have hA : ∀ q : Nat, s.heap.size ≤ q → A q := fun q h => by rw [← hAe]; exact Or.inr h
  have hl := lv_entry ([.ref so, .int (nI i), .int (nI j)]) (n := 3) (Nat.le_of_ble_eq_true rfl)
  rw [lg_entry_eq]
  generalize (lg_sl ([.ref so, .int (nI i), .int (nI j)]) ++ List.replicate (3 - (lg_sl ([.ref so, .int (nI i), .int (nI j)])).length) Slot.unset).toArray = ls at hl ⊢
  have hl : lv_has ls 3 [(0, .ref so), (1, .int (nI i)), (2, .int (nI j))] := hl
  refine hv_start (A := A) (ws := ([(so, .inr (2, [.ref sg, .int oo, .int xx])), (sg, .inl (cJ, 8, .inr (.inr (.inr (.inr tg)))))] ++ va_pl LP (gF cI pl pr))) hP (fun H locs hP hS => ?_)
  have w_0 := hts (.fieldLink RX2 11 "TextAligner$Scoring" "table" "[[I") (by decide +kernel)
  have i_X2 : ∀ w ∈ wsX20, w ∈ wsX2_ofKinds := by decide +kernel
  refine lv_aload_n hx hb dX2_ofKinds_0 rfl (lv_at hl 0 rfl) ?_
  refine va_get (D := D) (ci := 2) (v := .ref sg) (C := RX2) (T := TX2) (N := 3) hx hb hts i_X2 hown hK hP 0 rfl rfl 0 (by decide) w_0 (fun _ h9 => h9) rfl dX2_ofKinds_1 ?_
  refine lv_iload_n hx hb dX2_ofKinds_4 rfl (lv_at hl 1 rfl) ?_
  obtain ⟨y_1, y_1a, y_1b, y_1c, y_1d⟩ := hG.1 i (by omega)
  refine va_aldG hx hb hK hP 1 1 rfl rfl (k := i) y_1a (by omega) (by decide) dX2_ofKinds_5 ?_
  refine lv_iload_n hx hb dX2_ofKinds_6 rfl (lv_at hl 2 rfl) ?_
  obtain ⟨kq_2, hkq_2⟩ := va_pl_get (X := [(so, .inr (2, [.ref sg, .int oo, .int xx])), (sg, .inl (cJ, 8, .inr (.inr (.inr (.inr tg)))))]) (L := LP) (f := gF cI pl pr) y_1b
  refine va_ialdN hx hb hK hP kq_2 0 hkq_2 rfl (k := j) (by rw [y_1c]; exact (by omega)) (by rw [y_1c]; decide) dX2_ofKinds_7 ?_
  refine lv_cv (y := tb i j) (y_1d j (by omega)) ?_
  exact fin_i () hx hb hr hlocks dX2_ofKinds_8 hK hS hP hD rfl

set_option maxHeartbeats 4000000 in
set_option maxRecDepth 100000 in
theorem c_X2_ofSigns (l : Launch) (D : va_G) (cI cJ cL : ClassId) (sz : Nat) (so : Nat) (sg : Nat) (oo : Int32) (xx : Int32) (tg : Nat → Option Nat) (LP : List Nat) (pl : Nat → Nat) (pr : Nat → Nat → Int32) (tb : Nat → Nat → Int32) (x1 : Int32) (x2 : Int32) (hG : gr_ok tg LP pl pr 8 8 tb) (h1 : pf_sg x1) (h2 : pf_sg x2) :
    Met l yX2_ofSigns wsX2_ofSigns { frames := 0, cells := 0, slots := 0, locals := 0 } (va_Pc [.ref so, .int x1, .int x2] (Wd D [(cI, .int), (cJ, .array .int), (cL, .long)] ([(so, .inr (2, [.ref sg, .int oo, .int xx])), (sg, .inl (cJ, 8, .inr (.inr (.inr (.inr tg)))))] ++ va_pl LP (gF cI pl pr)) sz))
      (va_Qi (fun (r : Int32) (_ : Unit) => r = tb (pf_kd x1) (pf_kd x2)) (fun _ => Wa D [(cI, .int), (cJ, .array .int), (cL, .long)] (va_A ([(so, .inr (2, [.ref sg, .int oo, .int xx])), (sg, .inl (cJ, 8, .inr (.inr (.inr (.inr tg)))))] ++ va_pl LP (gF cI pl pr)) sz) (([(so, .inr (2, [.ref sg, .int oo, .int xx])), (sg, .inl (cJ, 8, .inr (.inr (.inr (.inr tg)))))] ++ va_pl LP (gF cI pl pr)))) (va_A ([(so, .inr (2, [.ref sg, .int oo, .int xx])), (sg, .inl (cJ, 8, .inr (.inr (.inr (.inr tg)))))] ++ va_pl LP (gF cI pl pr)) sz)) 0 0 (va_A ([(so, .inr (2, [.ref sg, .int oo, .int xx])), (sg, .inl (cJ, 8, .inr (.inr (.inr (.inr tg)))))] ++ va_pl LP (gF cI pl pr)) sz) := by
  refine Met.ofW (cc := cX2_ofSigns) (maxL := 3) (ret := (some .int)) (by decide) rfl ?_
  intro p e s m args below meth c s₁ B hml hv
  obtain ⟨rfl, hsz, hP, hK, hD0⟩ := hv
  have hx := B.exec
  have hb := B.bytes
  have hr := B.returns
  have hts := atoms_spec (ws := wsX2_ofSigns) B.pre
  have hown : s.vm.findClass RX2 = some m.cls := findClass_of_methodNamed B.named
  have hlocks := B.notSynchronized
  subst hsz
  have hD := hD0.self (sz := s.heap.size)
  generalize hAe : va_A ([(so, .inr (2, [.ref sg, .int oo, .int xx])), (sg, .inl (cJ, 8, .inr (.inr (.inr (.inr tg)))))] ++ va_pl LP (gF cI pl pr)) s.heap.size = A at hD ⊢
  have hA : ∀ q : Nat, s.heap.size ≤ q → A q := fun q h => by rw [← hAe]; exact Or.inr h
  have hl := lv_entry ([.ref so, .int x1, .int x2]) (n := 3) (Nat.le_of_ble_eq_true rfl)
  rw [lg_entry_eq]
  generalize (lg_sl ([.ref so, .int x1, .int x2]) ++ List.replicate (3 - (lg_sl ([.ref so, .int x1, .int x2])).length) Slot.unset).toArray = ls at hl ⊢
  have hl : lv_has ls 3 [(0, .ref so), (1, .int x1), (2, .int x2)] := hl
  refine hv_start (A := A) (ws := ([(so, .inr (2, [.ref sg, .int oo, .int xx])), (sg, .inl (cJ, 8, .inr (.inr (.inr (.inr tg)))))] ++ va_pl LP (gF cI pl pr))) hP (fun H locs hP hS => ?_)
  have w_0 := hts (.fieldLink RX2 11 "TextAligner$Scoring" "table" "[[I") (by decide +kernel)
  have i_X2 : ∀ w ∈ wsX20, w ∈ wsX2_ofSigns := by decide +kernel
  have kb1 := pf_kd_lt x1
  have kb2 := pf_kd_lt x2
  refine lv_aload_n hx hb dX2_ofSigns_0 rfl (lv_at hl 0 rfl) ?_
  refine va_get (D := D) (ci := 2) (v := .ref sg) (C := RX2) (T := TX2) (N := 3) hx hb hts i_X2 hown hK hP 0 rfl rfl 0 (by decide) w_0 (fun _ h9 => h9) rfl dX2_ofSigns_1 ?_
  refine lv_iload_n hx hb dX2_ofSigns_4 rfl (lv_at hl 1 rfl) ?_
  refine lv_bipush (v := 8) hx hb dX2_ofSigns_5 (by decide) ?_
  refine lv_irem hx hb dX2_ofSigns_7 (by decide) ?_
  refine lv_cv (y := nI (pf_kd x1)) (pf_kd_r h1) ?_
  obtain ⟨y_1, y_1a, y_1b, y_1c, y_1d⟩ := hG.1 (pf_kd x1) (by omega)
  refine va_aldG hx hb hK hP 1 1 rfl rfl (k := pf_kd x1) y_1a (by omega) (by decide) dX2_ofSigns_8 ?_
  refine lv_iload_n hx hb dX2_ofSigns_9 rfl (lv_at hl 2 rfl) ?_
  refine lv_bipush (v := 8) hx hb dX2_ofSigns_10 (by decide) ?_
  refine lv_irem hx hb dX2_ofSigns_12 (by decide) ?_
  refine lv_cv (y := nI (pf_kd x2)) (pf_kd_r h2) ?_
  obtain ⟨kq_2, hkq_2⟩ := va_pl_get (X := [(so, .inr (2, [.ref sg, .int oo, .int xx])), (sg, .inl (cJ, 8, .inr (.inr (.inr (.inr tg)))))]) (L := LP) (f := gF cI pl pr) y_1b
  refine va_ialdN hx hb hK hP kq_2 0 hkq_2 rfl (k := pf_kd x2) (by rw [y_1c]; exact (by omega)) (by rw [y_1c]; decide) dX2_ofSigns_13 ?_
  refine lv_cv (y := tb (pf_kd x1) (pf_kd x2)) (y_1d (pf_kd x2) (by omega)) ?_
  exact fin_i () hx hb hr hlocks dX2_ofSigns_14 hK hS hP hD rfl

set_option maxHeartbeats 4000000 in
set_option maxRecDepth 100000 in
theorem c_X2_putForKinds (l : Launch) (D : va_G) (cI cJ cL : ClassId) (sz : Nat) (so : Nat) (sg : Nat) (oo : Int32) (xx : Int32) (tg : Nat → Option Nat) (LP : List Nat) (pl : Nat → Nat) (pr : Nat → Nat → Int32) (tb : Nat → Nat → Int32) (i : Nat) (j : Nat) (v : Int32) (hG : gr_ok tg LP pl pr 8 8 tb) (hi : i < 8) (hj : j < 8) :
    Met l yX2_putForKinds wsX2_putForKinds { frames := 0, cells := 0, slots := 0, locals := 0 } (va_Pc [.ref so, .int (nI i), .int (nI j), .int v] (Wd D [(cI, .int), (cJ, .array .int), (cL, .long)] ([(so, .inr (2, [.ref sg, .int oo, .int xx])), (sg, .inl (cJ, 8, .inr (.inr (.inr (.inr tg)))))] ++ va_pl LP (gF cI pl pr)) sz))
      (va_Qv (fun (u : Nat → Nat → Int32) => gr_ok tg LP pl u 8 8 (gUp (gUp tb i j v) j i v) ∧ ∀ z, (∀ i, i < 8 → tg i ≠ some z) → u z = pr z) (fun u => Wa D [(cI, .int), (cJ, .array .int), (cL, .long)] (va_A ([(so, .inr (2, [.ref sg, .int oo, .int xx])), (sg, .inl (cJ, 8, .inr (.inr (.inr (.inr tg)))))] ++ va_pl LP (gF cI pl pr)) sz) (([(so, .inr (2, [.ref sg, .int oo, .int xx])), (sg, .inl (cJ, 8, .inr (.inr (.inr (.inr tg)))))] ++ va_pl LP (gF cI pl u)))) (va_A ([(so, .inr (2, [.ref sg, .int oo, .int xx])), (sg, .inl (cJ, 8, .inr (.inr (.inr (.inr tg)))))] ++ va_pl LP (gF cI pl pr)) sz)) 0 0 (va_A ([(so, .inr (2, [.ref sg, .int oo, .int xx])), (sg, .inl (cJ, 8, .inr (.inr (.inr (.inr tg)))))] ++ va_pl LP (gF cI pl pr)) sz) := by
  refine Met.ofW (cc := cX2_putForKinds) (maxL := 4) (ret := none) (by decide) rfl ?_
  intro p e s m args below meth c s₁ B hml hv
  obtain ⟨rfl, hsz, hP, hK, hD0⟩ := hv
  have hx := B.exec
  have hb := B.bytes
  have hr := B.returns
  have hts := atoms_spec (ws := wsX2_putForKinds) B.pre
  have hown : s.vm.findClass RX2 = some m.cls := findClass_of_methodNamed B.named
  have hlocks := B.notSynchronized
  subst hsz
  have hD := hD0.self (sz := s.heap.size)
  generalize hAe : va_A ([(so, .inr (2, [.ref sg, .int oo, .int xx])), (sg, .inl (cJ, 8, .inr (.inr (.inr (.inr tg)))))] ++ va_pl LP (gF cI pl pr)) s.heap.size = A at hD ⊢
  have hA : ∀ q : Nat, s.heap.size ≤ q → A q := fun q h => by rw [← hAe]; exact Or.inr h
  have hl := lv_entry ([.ref so, .int (nI i), .int (nI j), .int v]) (n := 4) (Nat.le_of_ble_eq_true rfl)
  rw [lg_entry_eq]
  generalize (lg_sl ([.ref so, .int (nI i), .int (nI j), .int v]) ++ List.replicate (4 - (lg_sl ([.ref so, .int (nI i), .int (nI j), .int v])).length) Slot.unset).toArray = ls at hl ⊢
  have hl : lv_has ls 4 [(0, .ref so), (1, .int (nI i)), (2, .int (nI j)), (3, .int v)] := hl
  refine hv_start (A := A) (ws := ([(so, .inr (2, [.ref sg, .int oo, .int xx])), (sg, .inl (cJ, 8, .inr (.inr (.inr (.inr tg)))))] ++ va_pl LP (gF cI pl pr))) hP (fun H locs hP hS => ?_)
  have w_0 := hts (.fieldLink RX2 11 "TextAligner$Scoring" "table" "[[I") (by decide +kernel)
  have i_X2 : ∀ w ∈ wsX20, w ∈ wsX2_putForKinds := by decide +kernel
  refine lv_aload_n hx hb dX2_putForKinds_0 rfl (lv_at hl 0 rfl) ?_
  refine va_get (D := D) (ci := 2) (v := .ref sg) (C := RX2) (T := TX2) (N := 3) hx hb hts i_X2 hown hK hP 0 rfl rfl 0 (by decide) w_0 (fun _ h9 => h9) rfl dX2_putForKinds_1 ?_
  refine lv_iload_n hx hb dX2_putForKinds_4 rfl (lv_at hl 1 rfl) ?_
  obtain ⟨y_1, y_1a, y_1b, y_1c, y_1d⟩ := hG.1 i (by omega)
  refine va_aldG hx hb hK hP 1 1 rfl rfl (k := i) y_1a (by omega) (by decide) dX2_putForKinds_5 ?_
  refine lv_iload_n hx hb dX2_putForKinds_6 rfl (lv_at hl 2 rfl) ?_
  refine lv_iload_n hx hb dX2_putForKinds_7 rfl (lv_at hl 3 rfl) ?_
  obtain ⟨kq_2, hkq_2⟩ := va_pl_get (X := [(so, .inr (2, [.ref sg, .int oo, .int xx])), (sg, .inl (cJ, 8, .inr (.inr (.inr (.inr tg)))))]) (L := LP) (f := gF cI pl pr) y_1b
  have hDo := hD
  refine va_iastN hx hb hK hP hD hS kq_2 0 hkq_2 rfl (k := j) (x := v) (by rw [y_1c]; exact (by omega)) (by rw [y_1c]; decide) dX2_putForKinds_8 (fun H locs hP hD hS => ?_)
  rw [va_pl_set hDo y_1b hkq_2, gF_up] at hP hD
  have hG1 := gUp_ok (v := v) (j := j) hG (by omega) y_1a y_1d
  have hk1 : ∀ z, (∀ i, i < 8 → tg i ≠ some z) → va_up pr y_1 (upd (pr y_1) j v) z = pr z := fun z hz => va_up_ne _ _ (fun q => hz i (by omega) (by rw [q]; exact y_1a))
  generalize va_up pr y_1 (upd (pr y_1) j v) = pr1 at hP hD hG1 hk1
  have hP : va_P D vwCl ([(so, .inr (2, [.ref sg, .int oo, .int xx])), (sg, .inl (cJ, 8, .inr (.inr (.inr (.inr tg)))))] ++ va_pl LP (gF cI pl pr1)) H := hP
  have hD : va_D A ([(so, .inr (2, [.ref sg, .int oo, .int xx])), (sg, .inl (cJ, 8, .inr (.inr (.inr (.inr tg)))))] ++ va_pl LP (gF cI pl pr1)) := hD
  refine lv_aload_n hx hb dX2_putForKinds_9 rfl (lv_at hl 0 rfl) ?_
  refine va_get (D := D) (ci := 2) (v := .ref sg) (C := RX2) (T := TX2) (N := 3) hx hb hts i_X2 hown hK hP 0 rfl rfl 0 (by decide) w_0 (fun _ h9 => h9) rfl dX2_putForKinds_10 ?_
  refine lv_iload_n hx hb dX2_putForKinds_13 rfl (lv_at hl 2 rfl) ?_
  obtain ⟨y_3, y_3a, y_3b, y_3c, y_3d⟩ := hG1.1 j (by omega)
  refine va_aldG hx hb hK hP 1 1 rfl rfl (k := j) y_3a (by omega) (by decide) dX2_putForKinds_14 ?_
  refine lv_iload_n hx hb dX2_putForKinds_15 rfl (lv_at hl 1 rfl) ?_
  refine lv_iload_n hx hb dX2_putForKinds_16 rfl (lv_at hl 3 rfl) ?_
  obtain ⟨kq_4, hkq_4⟩ := va_pl_get (X := [(so, .inr (2, [.ref sg, .int oo, .int xx])), (sg, .inl (cJ, 8, .inr (.inr (.inr (.inr tg)))))]) (L := LP) (f := gF cI pl pr1) y_3b
  have hDo := hD
  refine va_iastN hx hb hK hP hD hS kq_4 0 hkq_4 rfl (k := i) (x := v) (by rw [y_3c]; exact (by omega)) (by rw [y_3c]; decide) dX2_putForKinds_17 (fun H locs hP hD hS => ?_)
  rw [va_pl_set hDo y_3b hkq_4, gF_up] at hP hD
  have hG2 := gUp_ok (v := v) (j := i) hG1 (by omega) y_3a y_3d
  have hk2 : ∀ z, (∀ i, i < 8 → tg i ≠ some z) → va_up pr1 y_3 (upd (pr1 y_3) i v) z = pr1 z := fun z hz => va_up_ne _ _ (fun q => hz j (by omega) (by rw [q]; exact y_3a))
  generalize va_up pr1 y_3 (upd (pr1 y_3) i v) = pr2 at hP hD hG2 hk2
  have hP : va_P D vwCl ([(so, .inr (2, [.ref sg, .int oo, .int xx])), (sg, .inl (cJ, 8, .inr (.inr (.inr (.inr tg)))))] ++ va_pl LP (gF cI pl pr2)) H := hP
  have hD : va_D A ([(so, .inr (2, [.ref sg, .int oo, .int xx])), (sg, .inl (cJ, 8, .inr (.inr (.inr (.inr tg)))))] ++ va_pl LP (gF cI pl pr2)) := hD
  exact fin_v pr2 hx hb hr hlocks dX2_putForKinds_18 hK hS hP hD ⟨hG2, fun z hz => (hk2 z hz).trans (hk1 z hz)⟩
