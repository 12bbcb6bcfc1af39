set_option maxHeartbeats 4000000 in
set_option maxRecDepth 100000 in
/-- SignRow.size() -/
theorem c_X4_size (l : Launch) (D : va_G) (cI cJ cL : ClassId) (sz : Nat) (h : Nat) (hs : Nat) (cap : Nat) (n : Nat) (f : Nat → Int32)  :
    Met l yX4_size wsX4_size { frames := 0, cells := 0, slots := 0, locals := 0 } (va_Pc [.ref h] (Wd D [(cI, .int), (cJ, .array .int), (cL, .long)] [(h, .inr (4, [.ref hs, .int (nI n)])), (hs, .inl (cI, cap, .inl f))] sz))
      (va_Qi (fun (r : Int32) (_ : Unit) => r = nI n) (fun _ => Wa D [(cI, .int), (cJ, .array .int), (cL, .long)] (va_A [(h, .inr (4, [.ref hs, .int (nI n)])), (hs, .inl (cI, cap, .inl f))] sz) ([(h, .inr (4, [.ref hs, .int (nI n)])), (hs, .inl (cI, cap, .inl f))])) (va_A [(h, .inr (4, [.ref hs, .int (nI n)])), (hs, .inl (cI, cap, .inl f))] sz)) 0 0 (va_A [(h, .inr (4, [.ref hs, .int (nI n)])), (hs, .inl (cI, cap, .inl f))] sz) := by
  refine Met.ofW (cc := cX4_size) (maxL := 1) (ret := (some .int)) (by decide) rfl ?_
  intro p e s m args below meth c s₁ B hml hv
  obtain ⟨rfl, hsz, hP, hK, hD0⟩ := hv
  have hx := B.exec
  have hb := B.bytes
  have hr := B.returns
  have hts := atoms_spec (ws := wsX4_size) B.pre
  have hown : s.vm.findClass RX4 = some m.cls := findClass_of_methodNamed B.named
  have hlocks := B.notSynchronized
  subst hsz
  have hD := hD0.self (sz := s.heap.size)
  generalize hAe : va_A [(h, .inr (4, [.ref hs, .int (nI n)])), (hs, .inl (cI, cap, .inl f))] s.heap.size = A at hD ⊢
  have hA : ∀ q : Nat, s.heap.size ≤ q → A q := fun q h => by rw [← hAe]; exact Or.inr h
  have hl := lv_entry ([.ref h]) (n := 1) (Nat.le_of_ble_eq_true rfl)
  rw [lg_entry_eq]
  generalize (lg_sl ([.ref h]) ++ List.replicate (1 - (lg_sl ([.ref h])).length) Slot.unset).toArray = ls at hl ⊢
  have hl : lv_has ls 1 [(0, .ref h)] := hl
  refine hv_start (A := A) (ws := [(h, .inr (4, [.ref hs, .int (nI n)])), (hs, .inl (cI, cap, .inl f))]) hP (fun H locs hP hS => ?_)
  have w_0 := hts (.fieldLink RX4 13 "TextAligner$SignRow" "size" "I") (by decide +kernel)
  have i_X4 : ∀ w ∈ wsX40, w ∈ wsX4_size := by decide +kernel
  refine lv_aload_n hx hb dX4_size_0 rfl (lv_at hl 0 rfl) ?_
  refine va_get (D := D) (ci := 4) (v := .int (nI n)) (C := RX4) (T := TX4) (N := 2) hx hb hts i_X4 hown hK hP 0 rfl rfl 1 (by decide) w_0 (fun _ h9 => h9) rfl dX4_size_1 ?_
  exact fin_i () hx hb hr hlocks dX4_size_4 hK hS hP hD rfl

set_option maxHeartbeats 4000000 in
set_option maxRecDepth 100000 in
/-- SignRow.room() -/
theorem c_X4_room (l : Launch) (D : va_G) (cI cJ cL : ClassId) (sz : Nat) (h : Nat) (hs : Nat) (cap : Nat) (n : Nat) (f : Nat → Int32) (hn : n ≤ cap) :
    Met l yX4_room wsX4_room { frames := 0, cells := 0, slots := 0, locals := 0 } (va_Pc [.ref h] (Wd D [(cI, .int), (cJ, .array .int), (cL, .long)] [(h, .inr (4, [.ref hs, .int (nI n)])), (hs, .inl (cI, cap, .inl f))] sz))
      (va_Qi (fun (r : Int32) (_ : Unit) => r = nI (cap - n)) (fun _ => Wa D [(cI, .int), (cJ, .array .int), (cL, .long)] (va_A [(h, .inr (4, [.ref hs, .int (nI n)])), (hs, .inl (cI, cap, .inl f))] sz) ([(h, .inr (4, [.ref hs, .int (nI n)])), (hs, .inl (cI, cap, .inl f))])) (va_A [(h, .inr (4, [.ref hs, .int (nI n)])), (hs, .inl (cI, cap, .inl f))] sz)) 0 0 (va_A [(h, .inr (4, [.ref hs, .int (nI n)])), (hs, .inl (cI, cap, .inl f))] sz) := by
  refine Met.ofW (cc := cX4_room) (maxL := 1) (ret := (some .int)) (by decide) rfl ?_
  intro p e s m args below meth c s₁ B hml hv
  obtain ⟨rfl, hsz, hP, hK, hD0⟩ := hv
  have hx := B.exec
  have hb := B.bytes
  have hr := B.returns
  have hts := atoms_spec (ws := wsX4_room) B.pre
  have hown : s.vm.findClass RX4 = some m.cls := findClass_of_methodNamed B.named
  have hlocks := B.notSynchronized
  subst hsz
  have hD := hD0.self (sz := s.heap.size)
  generalize hAe : va_A [(h, .inr (4, [.ref hs, .int (nI n)])), (hs, .inl (cI, cap, .inl f))] s.heap.size = A at hD ⊢
  have hA : ∀ q : Nat, s.heap.size ≤ q → A q := fun q h => by rw [← hAe]; exact Or.inr h
  have hl := lv_entry ([.ref h]) (n := 1) (Nat.le_of_ble_eq_true rfl)
  rw [lg_entry_eq]
  generalize (lg_sl ([.ref h]) ++ List.replicate (1 - (lg_sl ([.ref h])).length) Slot.unset).toArray = ls at hl ⊢
  have hl : lv_has ls 1 [(0, .ref h)] := hl
  refine hv_start (A := A) (ws := [(h, .inr (4, [.ref hs, .int (nI n)])), (hs, .inl (cI, cap, .inl f))]) hP (fun H locs hP hS => ?_)
  have w_0 := hts (.fieldLink RX4 7 "TextAligner$SignRow" "signs" "[I") (by decide +kernel)
  have i_X4 : ∀ w ∈ wsX40, w ∈ wsX4_room := by decide +kernel
  have w_2 := hts (.fieldLink RX4 13 "TextAligner$SignRow" "size" "I") (by decide +kernel)
  refine lv_aload_n hx hb dX4_room_0 rfl (lv_at hl 0 rfl) ?_
  refine va_get (D := D) (ci := 4) (v := .ref hs) (C := RX4) (T := TX4) (N := 2) hx hb hts i_X4 hown hK hP 0 rfl rfl 0 (by decide) w_0 (fun _ h9 => h9) rfl dX4_room_1 ?_
  refine va_alen hx hb hK hP 1 0 rfl rfl (v := nI cap) rfl dX4_room_4 ?_
  refine lv_aload_n hx hb dX4_room_5 rfl (lv_at hl 0 rfl) ?_
  refine va_get (D := D) (ci := 4) (v := .int (nI n)) (C := RX4) (T := TX4) (N := 2) hx hb hts i_X4 hown hK hP 0 rfl rfl 1 (by decide) w_2 (fun _ h9 => h9) rfl dX4_room_6 ?_
  refine lv_isub hx hb dX4_room_9 ?_
  refine lv_cv (y := nI (cap - n)) (pk_sub (by omega)) ?_
  exact fin_i () hx hb hr hlocks dX4_room_10 hK hS hP hD rfl

set_option maxHeartbeats 4000000 in
set_option maxRecDepth 100000 in
/-- SignRow.signBehind(k) -/
theorem c_X4_signBehind (l : Launch) (D : va_G) (cI cJ cL : ClassId) (sz : Nat) (h : Nat) (hs : Nat) (cap : Nat) (n : Nat) (f : Nat → Int32) (k : Nat) (hk : k < cap) (hc : cap ≤ 300) :
    Met l yX4_signBehind wsX4_signBehind { frames := 0, cells := 0, slots := 0, locals := 0 } (va_Pc [.ref h, .int (nI k)] (Wd D [(cI, .int), (cJ, .array .int), (cL, .long)] [(h, .inr (4, [.ref hs, .int (nI n)])), (hs, .inl (cI, cap, .inl f))] sz))
      (va_Qi (fun (r : Int32) (_ : Unit) => r = f k) (fun _ => Wa D [(cI, .int), (cJ, .array .int), (cL, .long)] (va_A [(h, .inr (4, [.ref hs, .int (nI n)])), (hs, .inl (cI, cap, .inl f))] sz) ([(h, .inr (4, [.ref hs, .int (nI n)])), (hs, .inl (cI, cap, .inl f))])) (va_A [(h, .inr (4, [.ref hs, .int (nI n)])), (hs, .inl (cI, cap, .inl f))] sz)) 0 0 (va_A [(h, .inr (4, [.ref hs, .int (nI n)])), (hs, .inl (cI, cap, .inl f))] sz) := by
  refine Met.ofW (cc := cX4_signBehind) (maxL := 2) (ret := (some .int)) (by decide) rfl ?_
  intro p e s m args below meth c s₁ B hml hv
  obtain ⟨rfl, hsz, hP, hK, hD0⟩ := hv
  have hx := B.exec
  have hb := B.bytes
  have hr := B.returns
  have hts := atoms_spec (ws := wsX4_signBehind) B.pre
  have hown : s.vm.findClass RX4 = some m.cls := findClass_of_methodNamed B.named
  have hlocks := B.notSynchronized
  subst hsz
  have hD := hD0.self (sz := s.heap.size)
  generalize hAe : va_A [(h, .inr (4, [.ref hs, .int (nI n)])), (hs, .inl (cI, cap, .inl f))] s.heap.size = A at hD ⊢
  have hA : ∀ q : Nat, s.heap.size ≤ q → A q := fun q h => by rw [← hAe]; exact Or.inr h
  have hl := lv_entry ([.ref h, .int (nI k)]) (n := 2) (Nat.le_of_ble_eq_true rfl)
  rw [lg_entry_eq]
  generalize (lg_sl ([.ref h, .int (nI k)]) ++ List.replicate (2 - (lg_sl ([.ref h, .int (nI k)])).length) Slot.unset).toArray = ls at hl ⊢
  have hl : lv_has ls 2 [(0, .ref h), (1, .int (nI k))] := hl
  refine hv_start (A := A) (ws := [(h, .inr (4, [.ref hs, .int (nI n)])), (hs, .inl (cI, cap, .inl f))]) hP (fun H locs hP hS => ?_)
  have w_0 := hts (.fieldLink RX4 7 "TextAligner$SignRow" "signs" "[I") (by decide +kernel)
  have i_X4 : ∀ w ∈ wsX40, w ∈ wsX4_signBehind := by decide +kernel
  refine lv_aload_n hx hb dX4_signBehind_0 rfl (lv_at hl 0 rfl) ?_
  refine va_get (D := D) (ci := 4) (v := .ref hs) (C := RX4) (T := TX4) (N := 2) hx hb hts i_X4 hown hK hP 0 rfl rfl 0 (by decide) w_0 (fun _ h9 => h9) rfl dX4_signBehind_1 ?_
  refine lv_iload_n hx hb dX4_signBehind_4 rfl (lv_at hl 1 rfl) ?_
  refine va_ialdN hx hb hK hP 1 0 rfl rfl (k := k) (by omega) (by omega) dX4_signBehind_5 ?_
  exact fin_i () hx hb hr hlocks dX4_signBehind_6 hK hS hP hD rfl

set_option maxHeartbeats 4000000 in
set_option maxRecDepth 100000 in
/-- SignRow.becomeEmpty() -/
theorem c_X4_becomeEmpty (l : Launch) (D : va_G) (cI cJ cL : ClassId) (sz : Nat) (h : Nat) (hs : Nat) (cap : Nat) (n : Nat) (f : Nat → Int32)  :
    Met l yX4_becomeEmpty wsX4_becomeEmpty { frames := 0, cells := 0, slots := 0, locals := 0 } (va_Pc [.ref h] (Wd D [(cI, .int), (cJ, .array .int), (cL, .long)] [(h, .inr (4, [.ref hs, .int (nI n)])), (hs, .inl (cI, cap, .inl f))] sz))
      (va_Qv (fun (_ : Unit) => True) (fun _ => Wa D [(cI, .int), (cJ, .array .int), (cL, .long)] (va_A [(h, .inr (4, [.ref hs, .int (nI n)])), (hs, .inl (cI, cap, .inl f))] sz) ([(h, .inr (4, [.ref hs, .int (nI 0)])), (hs, .inl (cI, cap, .inl f))])) (va_A [(h, .inr (4, [.ref hs, .int (nI n)])), (hs, .inl (cI, cap, .inl f))] sz)) 0 0 (va_A [(h, .inr (4, [.ref hs, .int (nI n)])), (hs, .inl (cI, cap, .inl f))] sz) := by
  refine Met.ofW (cc := cX4_becomeEmpty) (maxL := 1) (ret := none) (by decide) rfl ?_
  intro p e s m args below meth c s₁ B hml hv
  obtain ⟨rfl, hsz, hP, hK, hD0⟩ := hv
  have hx := B.exec
  have hb := B.bytes
  have hr := B.returns
  have hts := atoms_spec (ws := wsX4_becomeEmpty) B.pre
  have hown : s.vm.findClass RX4 = some m.cls := findClass_of_methodNamed B.named
  have hlocks := B.notSynchronized
  subst hsz
  have hD := hD0.self (sz := s.heap.size)
  generalize hAe : va_A [(h, .inr (4, [.ref hs, .int (nI n)])), (hs, .inl (cI, cap, .inl f))] s.heap.size = A at hD ⊢
  have hA : ∀ q : Nat, s.heap.size ≤ q → A q := fun q h => by rw [← hAe]; exact Or.inr h
  have hl := lv_entry ([.ref h]) (n := 1) (Nat.le_of_ble_eq_true rfl)
  rw [lg_entry_eq]
  generalize (lg_sl ([.ref h]) ++ List.replicate (1 - (lg_sl ([.ref h])).length) Slot.unset).toArray = ls at hl ⊢
  have hl : lv_has ls 1 [(0, .ref h)] := hl
  refine hv_start (A := A) (ws := [(h, .inr (4, [.ref hs, .int (nI n)])), (hs, .inl (cI, cap, .inl f))]) hP (fun H locs hP hS => ?_)
  have w_0 := hts (.fieldLink RX4 13 "TextAligner$SignRow" "size" "I") (by decide +kernel)
  have i_X4 : ∀ w ∈ wsX40, w ∈ wsX4_becomeEmpty := by decide +kernel
  refine lv_aload_n hx hb dX4_becomeEmpty_0 rfl (lv_at hl 0 rfl) ?_
  refine lv_iconst (v := 0) hx hb dX4_becomeEmpty_1 (by decide) ?_
  refine va_put (D := D) (ci := 4) (v := .int 0) (ty := .int) (C := RX4) (T := TX4) (N := 2) hx hb hts i_X4 tyX4 tyX4_ok nmX4 hown hK hP hD hS 0 rfl rfl 1 (by decide) w_0 (fun _ h9 => h9) rfl (by decide +kernel) rfl rfl (Nat.le_of_ble_eq_true rfl) dX4_becomeEmpty_2 (fun H locs hP hD hS => ?_)
  have hP : va_P D vwCl [(h, .inr (4, [.ref hs, .int 0])), (hs, .inl (cI, cap, .inl f))] H := hP
  have hD : va_D A [(h, .inr (4, [.ref hs, .int 0])), (hs, .inl (cI, cap, .inl f))] := hD
  have hP : va_P D vwCl [(h, .inr (4, [.ref hs, .int (nI 0)])), (hs, .inl (cI, cap, .inl f))] H := hP
  have hD : va_D A [(h, .inr (4, [.ref hs, .int (nI 0)])), (hs, .inl (cI, cap, .inl f))] := hD
  exact fin_v () hx hb hr hlocks dX4_becomeEmpty_5 hK hS hP hD trivial

set_option maxHeartbeats 4000000 in
set_option maxRecDepth 100000 in
/-- SignRow.takeSignsOf(w) -/
theorem c_X4_takeSignsOf (l : Launch) (D : va_G) (cI cJ cL : ClassId) (sz : Nat) (h : Nat) (hs : Nat) (cap : Nat) (n : Nat) (f : Nat → Int32) (w : Int32) (hc : cap ≤ 300) (hn : n + px_nz w 4 ≤ cap) :
    Met l yX4_takeSignsOf wsX4_takeSignsOf { frames := 0, cells := 0, slots := 0, locals := 0 } (va_Pc [.ref h, .int w] (Wd D [(cI, .int), (cJ, .array .int), (cL, .long)] [(h, .inr (4, [.ref hs, .int (nI n)])), (hs, .inl (cI, cap, .inl f))] sz))
      (va_Qv (fun (_ : Unit) => True) (fun _ => Wa D [(cI, .int), (cJ, .array .int), (cL, .long)] (va_A [(h, .inr (4, [.ref hs, .int (nI n)])), (hs, .inl (cI, cap, .inl f))] sz) ([(h, .inr (4, [.ref hs, .int (nI ((px_pw w (n, f) 4).1))])), (hs, .inl (cI, cap, .inl ((px_pw w (n, f) 4).2)))])) (va_A [(h, .inr (4, [.ref hs, .int (nI n)])), (hs, .inl (cI, cap, .inl f))] sz)) 0 0 (va_A [(h, .inr (4, [.ref hs, .int (nI n)])), (hs, .inl (cI, cap, .inl f))] sz) := by
  refine Met.ofW (cc := cX4_takeSignsOf) (maxL := 4) (ret := none) (by decide) rfl ?_
  intro p e s m args below meth c s₁ B hml hv
  obtain ⟨rfl, hsz, hP, hK, hD0⟩ := hv
  have hx := B.exec
  have hb := B.bytes
  have hr := B.returns
  have hts := atoms_spec (ws := wsX4_takeSignsOf) B.pre
  have hown : s.vm.findClass RX4 = some m.cls := findClass_of_methodNamed B.named
  have hlocks := B.notSynchronized
  subst hsz
  have hD := hD0.self (sz := s.heap.size)
  generalize hAe : va_A [(h, .inr (4, [.ref hs, .int (nI n)])), (hs, .inl (cI, cap, .inl f))] s.heap.size = A at hD ⊢
  have hA : ∀ q : Nat, s.heap.size ≤ q → A q := fun q h => by rw [← hAe]; exact Or.inr h
  have hl := lv_entry ([.ref h, .int w]) (n := 4) (Nat.le_of_ble_eq_true rfl)
  rw [lg_entry_eq]
  generalize (lg_sl ([.ref h, .int w]) ++ List.replicate (4 - (lg_sl ([.ref h, .int w])).length) Slot.unset).toArray = ls at hl ⊢
  have hl : lv_has ls 4 [(0, .ref h), (1, .int w)] := hl
  refine hv_start (A := A) (ws := [(h, .inr (4, [.ref hs, .int (nI n)])), (hs, .inl (cI, cap, .inl f))]) hP (fun H locs hP hS => ?_)
  have w_0 := hts (.fieldLink RX4 13 "TextAligner$SignRow" "size" "I") (by decide +kernel)
  have i_X4 : ∀ w ∈ wsX40, w ∈ wsX4_takeSignsOf := by decide +kernel
  have w_2 := hts (.fieldLink RX4 7 "TextAligner$SignRow" "signs" "[I") (by decide +kernel)
  refine lv_iconst (v := 0) hx hb dX4_takeSignsOf_0 (by decide) ?_
  refine lv_istore_n (lv' := [(2, .int 0), (0, .ref h), (1, .int w)]) hx hb dX4_takeSignsOf_1 rfl hl (by decide) rfl (fun ls hl => ?_)
  refine hv_loop (fun zz H locs ls => ∃ (k : Nat), k ≤ 4 ∧ zz = 4 - k ∧ va_P D vwCl [(h, .inr (4, [.ref hs, .int (nI ((px_pw w (n, f) k).1))])), (hs, .inl (cI, cap, .inl ((px_pw w (n, f) k).2)))] H ∧ va_D A [(h, .inr (4, [.ref hs, .int (nI ((px_pw w (n, f) k).1))])), (hs, .inl (cI, cap, .inl ((px_pw w (n, f) k).2)))] ∧ va_S A s.heap H locs ∧ lv_has ls 4 [(0, .ref h), (1, .int w), (2, .int (nI (8 * k)))]) ?_ _ ⟨0, by omega, rfl, hP, hD, hS, lv_sub hl [1, 2, 0] rfl⟩
  intro zz_2 H locs ls hI ih_2
  obtain ⟨k, hk, hzz_2, hP, hD, hS, hl⟩ := hI
  refine lv_iload_n hx hb dX4_takeSignsOf_2 rfl (lv_at hl 2 rfl) ?_
  refine lv_bipush (v := 32) hx hb dX4_takeSignsOf_3 (by decide) ?_
  refine lv_icmp_ge (tgt := 58) hx hb dX4_takeSignsOf_5 (by decide) (fun c_5 => ?_) (fun c_5 => ?_)
  · have k_5 : 32 ≤ 8 * k := (nI_leI (a := 32) (b := 8 * k) (by omega) (by omega)).mp c_5
    have hk4 : k = 4 := by omega
    subst hk4
    exact fin_v () hx hb hr hlocks dX4_takeSignsOf_58 hK hS hP hD trivial
  · have k_5 : ¬ (32 ≤ 8 * k) := fun q => c_5 ((nI_leI (a := 32) (b := 8 * k) (by omega) (by omega)).mpr q)
    refine lv_iload_n hx hb dX4_takeSignsOf_8 rfl (lv_at hl 1 rfl) ?_
    refine lv_iload_n hx hb dX4_takeSignsOf_9 rfl (lv_at hl 2 rfl) ?_
    refine lv_iushr hx hb dX4_takeSignsOf_10 rfl ?_
    refine lv_sipush (v := 255) hx hb dX4_takeSignsOf_11 (by decide) ?_
    refine lv_iand hx hb dX4_takeSignsOf_14 ?_
    refine lv_cv (y := px_sg w k) (rfl) ?_
    refine lv_istore_n (lv' := [(3, .int (px_sg w k)), (0, .ref h), (1, .int w), (2, .int (nI (8 * k)))]) hx hb dX4_takeSignsOf_15 rfl hl (by decide) rfl (fun ls hl => ?_)
    refine lv_iload_n hx hb dX4_takeSignsOf_16 rfl (lv_at hl 0 rfl) ?_
    refine lv_if_eq (tgt := 52) hx hb dX4_takeSignsOf_17 (by decide) (fun c_17 => ?_) (fun c_17 => ?_)
    · refine lv_iinc (v := nI (8 * (k + 1))) (lv' := [(2, .int (nI (8 * (k + 1)))), (3, .int (px_sg w k)), (0, .ref h), (1, .int w)]) hx hb dX4_takeSignsOf_52 hl (k := 3) rfl (nI_add (8 * k) 8) (by decide) rfl (fun ls hl => ?_)
      refine lv_goto (tgt := 2) hx hb dX4_takeSignsOf_55 (by decide) ?_
      have e9 : px_pw w (n, f) (k + 1) = px_pw w (n, f) k := if_pos c_17
      exact ih_2 (4 - (k + 1)) _ _ _ (by omega) ⟨k + 1, by omega, rfl, by rw [e9]; exact hP, by rw [e9]; exact hD, hS, lv_sub hl [2, 3, 0] rfl⟩
    · have hlt : (px_pw w (n, f) k).1 < cap := by
        have q1 := px_pw_n w (n, f) k
        have q2 := px_nz_lt (w := w) (k := k) (by omega) c_17
        have q3 : (px_pw w (n, f) k).1 = n + px_nz w k := q1
        omega
      refine lv_aload_n hx hb dX4_takeSignsOf_20 rfl (lv_at hl 1 rfl) ?_
      refine va_get (D := D) (ci := 4) (v := .int (nI ((px_pw w (n, f) k).1))) (C := RX4) (T := TX4) (N := 2) hx hb hts i_X4 hown hK hP 0 rfl rfl 1 (by decide) w_0 (fun _ h9 => h9) rfl dX4_takeSignsOf_21 ?_
      refine lv_aload_n hx hb dX4_takeSignsOf_24 rfl (lv_at hl 1 rfl) ?_
      refine va_get (D := D) (ci := 4) (v := .ref hs) (C := RX4) (T := TX4) (N := 2) hx hb hts i_X4 hown hK hP 0 rfl rfl 0 (by decide) w_2 (fun _ h9 => h9) rfl dX4_takeSignsOf_25 ?_
      refine va_alen hx hb hK hP 1 0 rfl rfl (v := nI cap) rfl dX4_takeSignsOf_28 ?_
      refine lv_icmp_ge (tgt := 52) hx hb dX4_takeSignsOf_29 (by decide) (fun c_29 => ?_) (fun c_29 => ?_)
      · have k_29 : cap ≤ (px_pw w (n, f) k).1 := (nI_leI (a := cap) (b := (px_pw w (n, f) k).1) (by omega) (by omega)).mp c_29
        exact absurd hlt (by omega)
      · have k_29 : ¬ (cap ≤ (px_pw w (n, f) k).1) := fun q => c_29 ((nI_leI (a := cap) (b := (px_pw w (n, f) k).1) (by omega) (by omega)).mpr q)
        refine lv_aload_n hx hb dX4_takeSignsOf_32 rfl (lv_at hl 1 rfl) ?_
        refine va_get (D := D) (ci := 4) (v := .ref hs) (C := RX4) (T := TX4) (N := 2) hx hb hts i_X4 hown hK hP 0 rfl rfl 0 (by decide) w_2 (fun _ h9 => h9) rfl dX4_takeSignsOf_33 ?_
        refine lv_aload_n hx hb dX4_takeSignsOf_36 rfl (lv_at hl 1 rfl) ?_
        refine va_get (D := D) (ci := 4) (v := .int (nI ((px_pw w (n, f) k).1))) (C := RX4) (T := TX4) (N := 2) hx hb hts i_X4 hown hK hP 0 rfl rfl 1 (by decide) w_0 (fun _ h9 => h9) rfl dX4_takeSignsOf_37 ?_
        refine lv_iload_n hx hb dX4_takeSignsOf_40 rfl (lv_at hl 0 rfl) ?_
        refine va_iastN hx hb hK hP hD hS 1 0 rfl rfl (k := (px_pw w (n, f) k).1) (x := px_sg w k) hlt (by omega) dX4_takeSignsOf_41 (fun H locs hP hD hS => ?_)
        have hP : va_P D vwCl [(h, .inr (4, [.ref hs, .int (nI ((px_pw w (n, f) k).1))])), (hs, .inl (cI, cap, .inl (upd ((px_pw w (n, f) k).2) ((px_pw w (n, f) k).1) (px_sg w k))))] H := hP
        have hD : va_D A [(h, .inr (4, [.ref hs, .int (nI ((px_pw w (n, f) k).1))])), (hs, .inl (cI, cap, .inl (upd ((px_pw w (n, f) k).2) ((px_pw w (n, f) k).1) (px_sg w k))))] := hD
        refine lv_aload_n hx hb dX4_takeSignsOf_42 rfl (lv_at hl 1 rfl) ?_
        refine lv_dup hx hb dX4_takeSignsOf_43 rfl ?_
        refine va_get (D := D) (ci := 4) (v := .int (nI ((px_pw w (n, f) k).1))) (C := RX4) (T := TX4) (N := 2) hx hb hts i_X4 hown hK hP 0 rfl rfl 1 (by decide) w_0 (fun _ h9 => h9) rfl dX4_takeSignsOf_44 ?_
        refine lv_iconst (v := 1) hx hb dX4_takeSignsOf_47 (by decide) ?_
        refine lv_iadd hx hb dX4_takeSignsOf_48 ?_
        refine lv_cv (y := nI ((px_pw w (n, f) k).1 + 1)) (nI_add ((px_pw w (n, f) k).1) 1) ?_
        refine va_put (D := D) (ci := 4) (v := .int (nI ((px_pw w (n, f) k).1 + 1))) (ty := .int) (C := RX4) (T := TX4) (N := 2) hx hb hts i_X4 tyX4 tyX4_ok nmX4 hown hK hP hD hS 0 rfl rfl 1 (by decide) w_0 (fun _ h9 => h9) rfl (by decide +kernel) rfl rfl (Nat.le_of_ble_eq_true rfl) dX4_takeSignsOf_49 (fun H locs hP hD hS => ?_)
        have hP : va_P D vwCl [(h, .inr (4, [.ref hs, .int (nI ((px_pw w (n, f) k).1 + 1))])), (hs, .inl (cI, cap, .inl (upd ((px_pw w (n, f) k).2) ((px_pw w (n, f) k).1) (px_sg w k))))] H := hP
        have hD : va_D A [(h, .inr (4, [.ref hs, .int (nI ((px_pw w (n, f) k).1 + 1))])), (hs, .inl (cI, cap, .inl (upd ((px_pw w (n, f) k).2) ((px_pw w (n, f) k).1) (px_sg w k))))] := hD
        refine lv_iinc (v := nI (8 * (k + 1))) (lv' := [(2, .int (nI (8 * (k + 1)))), (3, .int (px_sg w k)), (0, .ref h), (1, .int w)]) hx hb dX4_takeSignsOf_52 hl (k := 3) rfl (nI_add (8 * k) 8) (by decide) rfl (fun ls hl => ?_)
        refine lv_goto (tgt := 2) hx hb dX4_takeSignsOf_55 (by decide) ?_
        have e9 : px_pw w (n, f) (k + 1) = ((px_pw w (n, f) k).1 + 1, upd (px_pw w (n, f) k).2 (px_pw w (n, f) k).1 (px_sg w k)) := if_neg c_17
        exact ih_2 (4 - (k + 1)) _ _ _ (by omega) ⟨k + 1, by omega, rfl, by rw [e9]; exact hP, by rw [e9]; exact hD, hS, lv_sub hl [2, 3, 0] rfl⟩

set_option maxHeartbeats 4000000 in
set_option maxRecDepth 100000 in
/-- SignRow.becomeCopyOf(other) -/
theorem c_X4_becomeCopyOf (l : Launch) (D : va_G) (cI cJ cL : ClassId) (sz : Nat) (h : Nat) (hs : Nat) (cap : Nat) (n : Nat) (f : Nat → Int32) (h2 : Nat) (hs2 : Nat) (cap2 : Nat) (n2 : Nat) (f2 : Nat → Int32) (hc : cap ≤ 300) (hn : n2 ≤ cap) (hn2 : n2 ≤ cap2) :
    Met l yX4_becomeCopyOf wsX4_becomeCopyOf { frames := 1, cells := 0, slots := 0, locals := 18 } (va_Pc [.ref h, .ref h2] (Wd D [(cI, .int), (cJ, .array .int), (cL, .long)] [(h, .inr (4, [.ref hs, .int (nI n)])), (hs, .inl (cI, cap, .inl f)), (h2, .inr (4, [.ref hs2, .int (nI n2)])), (hs2, .inl (cI, cap2, .inl f2))] sz))
      (va_Qv (fun (_ : Unit) => True) (fun _ => Wa D [(cI, .int), (cJ, .array .int), (cL, .long)] (va_A [(h, .inr (4, [.ref hs, .int (nI n)])), (hs, .inl (cI, cap, .inl f)), (h2, .inr (4, [.ref hs2, .int (nI n2)])), (hs2, .inl (cI, cap2, .inl f2))] sz) ([(h, .inr (4, [.ref hs, .int (nI n2)])), (hs, .inl (cI, cap, .inl (va_cpy f2 f 0 0 n2))), (h2, .inr (4, [.ref hs2, .int (nI n2)])), (hs2, .inl (cI, cap2, .inl f2))])) (va_A [(h, .inr (4, [.ref hs, .int (nI n)])), (hs, .inl (cI, cap, .inl f)), (h2, .inr (4, [.ref hs2, .int (nI n2)])), (hs2, .inl (cI, cap2, .inl f2))] sz)) 0 0 (va_A [(h, .inr (4, [.ref hs, .int (nI n)])), (hs, .inl (cI, cap, .inl f)), (h2, .inr (4, [.ref hs2, .int (nI n2)])), (hs2, .inl (cI, cap2, .inl f2))] sz) := by
  refine Met.ofW (cc := cX4_becomeCopyOf) (maxL := 2) (ret := none) (by decide) rfl ?_
  intro p e s m args below meth c s₁ B hml hv
  obtain ⟨rfl, hsz, hP, hK, hD0⟩ := hv
  have hx := B.exec
  have hb := B.bytes
  have hr := B.returns
  have hts := atoms_spec (ws := wsX4_becomeCopyOf) B.pre
  have hown : s.vm.findClass RX4 = some m.cls := findClass_of_methodNamed B.named
  have hlocks := B.notSynchronized
  subst hsz
  have hD := hD0.self (sz := s.heap.size)
  generalize hAe : va_A [(h, .inr (4, [.ref hs, .int (nI n)])), (hs, .inl (cI, cap, .inl f)), (h2, .inr (4, [.ref hs2, .int (nI n2)])), (hs2, .inl (cI, cap2, .inl f2))] s.heap.size = A at hD ⊢
  have hA : ∀ q : Nat, s.heap.size ≤ q → A q := fun q h => by rw [← hAe]; exact Or.inr h
  have hl := lv_entry ([.ref h, .ref h2]) (n := 2) (Nat.le_of_ble_eq_true rfl)
  rw [lg_entry_eq]
  generalize (lg_sl ([.ref h, .ref h2]) ++ List.replicate (2 - (lg_sl ([.ref h, .ref h2])).length) Slot.unset).toArray = ls at hl ⊢
  have hl : lv_has ls 2 [(0, .ref h), (1, .ref h2)] := hl
  refine hv_start (A := A) (ws := [(h, .inr (4, [.ref hs, .int (nI n)])), (hs, .inl (cI, cap, .inl f)), (h2, .inr (4, [.ref hs2, .int (nI n2)])), (hs2, .inl (cI, cap2, .inl f2))]) hP (fun H locs hP hS => ?_)
  have w_0 := hts (.fieldLink RX4 13 "TextAligner$SignRow" "size" "I") (by decide +kernel)
  have i_X4 : ∀ w ∈ wsX40, w ∈ wsX4_becomeCopyOf := by decide +kernel
  have w_2 := hts (.fieldLink RX4 7 "TextAligner$SignRow" "signs" "[I") (by decide +kernel)
  have w_3 := hts (.methodLink RX4 17 Lib.Math.min.name) (by decide +kernel)
  have w_4 := hts (.static Lib.Math.min.name) (by decide +kernel)
  have w_5 := hts (.initialized "java/lang/Math") (by decide +kernel)
  have w_6 := hts (.code Lib.Math.min.name Lib.Math.min.code 2 (some .int)) (by decide +kernel)
  have w_7 := hts (.methodLink RX4 23 arraycopyName) (by decide +kernel)
  have w_8 := hts (.native arraycopyName) (by decide +kernel)
  have w_9 := hts (.static arraycopyName) (by decide +kernel)
  have w_10 := hts (.initialized "java/lang/System") (by decide +kernel)
  refine lv_aload_n hx hb dX4_becomeCopyOf_0 rfl (lv_at hl 0 rfl) ?_
  refine lv_aload_n hx hb dX4_becomeCopyOf_1 rfl (lv_at hl 1 rfl) ?_
  refine va_get (D := D) (ci := 4) (v := .int (nI n2)) (C := RX4) (T := TX4) (N := 2) hx hb hts i_X4 hown hK hP 2 rfl rfl 1 (by decide) w_0 (fun _ h9 => h9) rfl dX4_becomeCopyOf_2 ?_
  refine lv_aload_n hx hb dX4_becomeCopyOf_5 rfl (lv_at hl 0 rfl) ?_
  refine va_get (D := D) (ci := 4) (v := .ref hs) (C := RX4) (T := TX4) (N := 2) hx hb hts i_X4 hown hK hP 0 rfl rfl 0 (by decide) w_2 (fun _ h9 => h9) rfl dX4_becomeCopyOf_6 ?_
  refine va_alen hx hb hK hP 1 0 rfl rfl (v := nI cap) rfl dX4_becomeCopyOf_9 ?_
  refine va_mmin hx hb (by rw [hml]; exact hl.1.symm) hown w_3 w_4 w_5 w_6 (Nat.le_of_ble_eq_true rfl) (Nat.le_of_ble_eq_true rfl) (Nat.le_of_ble_eq_true rfl) (Nat.le_of_ble_eq_true rfl) dX4_becomeCopyOf_10 ?_
  refine lv_cv (y := nI n2) (by rw [if_neg]; intro q; exact absurd ((nI_ltI (by omega) (by omega)).mp q) (by omega)) ?_
  refine va_put (D := D) (ci := 4) (v := .int (nI n2)) (ty := .int) (C := RX4) (T := TX4) (N := 2) hx hb hts i_X4 tyX4 tyX4_ok nmX4 hown hK hP hD hS 0 rfl rfl 1 (by decide) w_0 (fun _ h9 => h9) rfl (by decide +kernel) rfl rfl (Nat.le_of_ble_eq_true rfl) dX4_becomeCopyOf_13 (fun H locs hP hD hS => ?_)
  have hP : va_P D vwCl [(h, .inr (4, [.ref hs, .int (nI n2)])), (hs, .inl (cI, cap, .inl f)), (h2, .inr (4, [.ref hs2, .int (nI n2)])), (hs2, .inl (cI, cap2, .inl f2))] H := hP
  have hD : va_D A [(h, .inr (4, [.ref hs, .int (nI n2)])), (hs, .inl (cI, cap, .inl f)), (h2, .inr (4, [.ref hs2, .int (nI n2)])), (hs2, .inl (cI, cap2, .inl f2))] := hD
  refine lv_aload_n hx hb dX4_becomeCopyOf_16 rfl (lv_at hl 1 rfl) ?_
  refine va_get (D := D) (ci := 4) (v := .ref hs2) (C := RX4) (T := TX4) (N := 2) hx hb hts i_X4 hown hK hP 2 rfl rfl 0 (by decide) w_2 (fun _ h9 => h9) rfl dX4_becomeCopyOf_17 ?_
  refine lv_iconst (v := 0) hx hb dX4_becomeCopyOf_20 (by decide) ?_
  refine lv_aload_n hx hb dX4_becomeCopyOf_21 rfl (lv_at hl 0 rfl) ?_
  refine va_get (D := D) (ci := 4) (v := .ref hs) (C := RX4) (T := TX4) (N := 2) hx hb hts i_X4 hown hK hP 0 rfl rfl 0 (by decide) w_2 (fun _ h9 => h9) rfl dX4_becomeCopyOf_22 ?_
  refine lv_iconst (v := 0) hx hb dX4_becomeCopyOf_25 (by decide) ?_
  refine lv_aload_n hx hb dX4_becomeCopyOf_26 rfl (lv_at hl 0 rfl) ?_
  refine va_get (D := D) (ci := 4) (v := .int (nI n2)) (C := RX4) (T := TX4) (N := 2) hx hb hts i_X4 hown hK hP 0 rfl rfl 1 (by decide) w_0 (fun _ h9 => h9) rfl dX4_becomeCopyOf_27 ?_
  refine va_copyN hx hb (by rw [hml]; exact hl.1.symm) hown w_7 w_8 w_9 w_10 hK hP hD hS 3 1 0 0 rfl rfl rfl rfl (k := n2) (by omega) (by omega) (by omega) (Nat.le_of_ble_eq_true rfl) (Nat.le_of_ble_eq_true rfl) dX4_becomeCopyOf_30 (fun H locs hP hD hS => ?_)
  have hP : va_P D vwCl [(h, .inr (4, [.ref hs, .int (nI n2)])), (hs, .inl (cI, cap, .inl (va_cpy f2 f 0 0 n2))), (h2, .inr (4, [.ref hs2, .int (nI n2)])), (hs2, .inl (cI, cap2, .inl f2))] H := hP
  have hD : va_D A [(h, .inr (4, [.ref hs, .int (nI n2)])), (hs, .inl (cI, cap, .inl (va_cpy f2 f 0 0 n2))), (h2, .inr (4, [.ref hs2, .int (nI n2)])), (hs2, .inl (cI, cap2, .inl f2))] := hD
  exact fin_v () hx hb hr hlocks dX4_becomeCopyOf_33 hK hS hP hD trivial
