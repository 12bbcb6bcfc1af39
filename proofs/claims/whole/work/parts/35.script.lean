set_option maxHeartbeats 4000000 in
set_option maxRecDepth 100000 in
theorem c_X3_length (l : Launch) (D : va_G) (cI cJ cL : ClassId) (sz : Nat) (sc : Nat) (ss : Nat) (sr : Nat) (len : Nat) (vs : Nat → Int32) (rg : Nat → Option Nat)  :
    Met l yX3_length wsX3_length { frames := 0, cells := 0, slots := 0, locals := 0 } (va_Pc [.ref sc] (Wd D [(cI, .int), (cJ, .array .int), (cL, .long)] [(sc, .inr (3, [.ref ss, .int (nI len), .ref sr])), (ss, .inl (cI, 450, .inl vs)), (sr, .inl (cJ, 151, .inr (.inr (.inr (.inr rg)))))] sz))
      (va_Qi (fun (r : Int32) (_ : Unit) => r = nI len) (fun _ => Wa D [(cI, .int), (cJ, .array .int), (cL, .long)] (va_A [(sc, .inr (3, [.ref ss, .int (nI len), .ref sr])), (ss, .inl (cI, 450, .inl vs)), (sr, .inl (cJ, 151, .inr (.inr (.inr (.inr rg)))))] sz) ([(sc, .inr (3, [.ref ss, .int (nI len), .ref sr])), (ss, .inl (cI, 450, .inl vs)), (sr, .inl (cJ, 151, .inr (.inr (.inr (.inr rg)))))])) (va_A [(sc, .inr (3, [.ref ss, .int (nI len), .ref sr])), (ss, .inl (cI, 450, .inl vs)), (sr, .inl (cJ, 151, .inr (.inr (.inr (.inr rg)))))] sz)) 0 0 (va_A [(sc, .inr (3, [.ref ss, .int (nI len), .ref sr])), (ss, .inl (cI, 450, .inl vs)), (sr, .inl (cJ, 151, .inr (.inr (.inr (.inr rg)))))] sz) := by
  refine Met.ofW (cc := cX3_length) (maxL := 1) (ret := (some .int)) (by decide) rfl ?_
  intro p e s m args below meth c s₁ B hml hv
  obtain ⟨rfl, hsz, hP, hK, hD0⟩ := hv
  have hx := B.exec
  have hb := B.bytes
  have hr := B.returns
  have hts := atoms_spec (ws := wsX3_length) B.pre
  have hown : s.vm.findClass RX3 = some m.cls := findClass_of_methodNamed B.named
  have hlocks := B.notSynchronized
  subst hsz
  have hD := hD0.self (sz := s.heap.size)
  generalize hAe : va_A [(sc, .inr (3, [.ref ss, .int (nI len), .ref sr])), (ss, .inl (cI, 450, .inl vs)), (sr, .inl (cJ, 151, .inr (.inr (.inr (.inr rg)))))] s.heap.size = A at hD ⊢
  have hA : ∀ q : Nat, s.heap.size ≤ q → A q := fun q h => by rw [← hAe]; exact Or.inr h
  have hl := lv_entry ([.ref sc]) (n := 1) (Nat.le_of_ble_eq_true rfl)
  rw [lg_entry_eq]
  generalize (lg_sl ([.ref sc]) ++ List.replicate (1 - (lg_sl ([.ref sc])).length) Slot.unset).toArray = ls at hl ⊢
  have hl : lv_has ls 1 [(0, .ref sc)] := hl
  refine hv_start (A := A) (ws := [(sc, .inr (3, [.ref ss, .int (nI len), .ref sr])), (ss, .inl (cI, 450, .inl vs)), (sr, .inl (cJ, 151, .inr (.inr (.inr (.inr rg)))))]) hP (fun H locs hP hS => ?_)
  have w_0 := hts (.fieldLink RX3 15 "TextAligner$Script" "length" "I") (by decide +kernel)
  have i_X3 : ∀ w ∈ wsX30, w ∈ wsX3_length := by decide +kernel
  refine lv_aload_n hx hb dX3_length_0 rfl (lv_at hl 0 rfl) ?_
  refine va_get (D := D) (ci := 3) (v := .int (nI len)) (C := RX3) (T := TX3) (N := 3) hx hb hts i_X3 hown hK hP 0 rfl rfl 1 (by decide) w_0 (fun _ h9 => h9) rfl dX3_length_1 ?_
  exact fin_i () hx hb hr hlocks dX3_length_4 hK hS hP hD rfl

set_option maxHeartbeats 4000000 in
set_option maxRecDepth 100000 in
theorem c_X3_stepAt (l : Launch) (D : va_G) (cI cJ cL : ClassId) (sz : Nat) (sc : Nat) (ss : Nat) (sr : Nat) (len : Nat) (vs : Nat → Int32) (rg : Nat → Option Nat) (k : Nat) (hk : k < 450) :
    Met l yX3_stepAt wsX3_stepAt { frames := 0, cells := 0, slots := 0, locals := 0 } (va_Pc [.ref sc, .int (nI k)] (Wd D [(cI, .int), (cJ, .array .int), (cL, .long)] [(sc, .inr (3, [.ref ss, .int (nI len), .ref sr])), (ss, .inl (cI, 450, .inl vs)), (sr, .inl (cJ, 151, .inr (.inr (.inr (.inr rg)))))] sz))
      (va_Qi (fun (r : Int32) (_ : Unit) => r = vs k) (fun _ => Wa D [(cI, .int), (cJ, .array .int), (cL, .long)] (va_A [(sc, .inr (3, [.ref ss, .int (nI len), .ref sr])), (ss, .inl (cI, 450, .inl vs)), (sr, .inl (cJ, 151, .inr (.inr (.inr (.inr rg)))))] sz) ([(sc, .inr (3, [.ref ss, .int (nI len), .ref sr])), (ss, .inl (cI, 450, .inl vs)), (sr, .inl (cJ, 151, .inr (.inr (.inr (.inr rg)))))])) (va_A [(sc, .inr (3, [.ref ss, .int (nI len), .ref sr])), (ss, .inl (cI, 450, .inl vs)), (sr, .inl (cJ, 151, .inr (.inr (.inr (.inr rg)))))] sz)) 0 0 (va_A [(sc, .inr (3, [.ref ss, .int (nI len), .ref sr])), (ss, .inl (cI, 450, .inl vs)), (sr, .inl (cJ, 151, .inr (.inr (.inr (.inr rg)))))] sz) := by
  refine Met.ofW (cc := cX3_stepAt) (maxL := 2) (ret := (some .int)) (by decide) rfl ?_
  intro p e s m args below meth c s₁ B hml hv
  obtain ⟨rfl, hsz, hP, hK, hD0⟩ := hv
  have hx := B.exec
  have hb := B.bytes
  have hr := B.returns
  have hts := atoms_spec (ws := wsX3_stepAt) B.pre
  have hown : s.vm.findClass RX3 = some m.cls := findClass_of_methodNamed B.named
  have hlocks := B.notSynchronized
  subst hsz
  have hD := hD0.self (sz := s.heap.size)
  generalize hAe : va_A [(sc, .inr (3, [.ref ss, .int (nI len), .ref sr])), (ss, .inl (cI, 450, .inl vs)), (sr, .inl (cJ, 151, .inr (.inr (.inr (.inr rg)))))] s.heap.size = A at hD ⊢
  have hA : ∀ q : Nat, s.heap.size ≤ q → A q := fun q h => by rw [← hAe]; exact Or.inr h
  have hl := lv_entry ([.ref sc, .int (nI k)]) (n := 2) (Nat.le_of_ble_eq_true rfl)
  rw [lg_entry_eq]
  generalize (lg_sl ([.ref sc, .int (nI k)]) ++ List.replicate (2 - (lg_sl ([.ref sc, .int (nI k)])).length) Slot.unset).toArray = ls at hl ⊢
  have hl : lv_has ls 2 [(0, .ref sc), (1, .int (nI k))] := hl
  refine hv_start (A := A) (ws := [(sc, .inr (3, [.ref ss, .int (nI len), .ref sr])), (ss, .inl (cI, 450, .inl vs)), (sr, .inl (cJ, 151, .inr (.inr (.inr (.inr rg)))))]) hP (fun H locs hP hS => ?_)
  have w_0 := hts (.fieldLink RX3 9 "TextAligner$Script" "steps" "[I") (by decide +kernel)
  have i_X3 : ∀ w ∈ wsX30, w ∈ wsX3_stepAt := by decide +kernel
  refine lv_aload_n hx hb dX3_stepAt_0 rfl (lv_at hl 0 rfl) ?_
  refine va_get (D := D) (ci := 3) (v := .ref ss) (C := RX3) (T := TX3) (N := 3) hx hb hts i_X3 hown hK hP 0 rfl rfl 0 (by decide) w_0 (fun _ h9 => h9) rfl dX3_stepAt_1 ?_
  refine lv_iload_n hx hb dX3_stepAt_4 rfl (lv_at hl 1 rfl) ?_
  refine va_ialdN hx hb hK hP 1 0 rfl rfl (k := k) (by omega) (by decide) dX3_stepAt_5 ?_
  exact fin_i () hx hb hr hlocks dX3_stepAt_6 hK hS hP hD rfl

set_option maxHeartbeats 4000000 in
set_option maxRecDepth 100000 in
theorem c_X3_changeAt (l : Launch) (D : va_G) (cI cJ cL : ClassId) (sz : Nat) (hp : Nat) (hpa : Nat) (ht : Nat) (hta : Nat) (om : Nat) (on : Nat) (op : Nat → Int32) (ot : Nat → Int32) (i : Nat) (j : Nat) (hi : i < 150) (hj : j < 300) :
    Met l yX3_changeAt wsX3_changeAt { frames := 1, cells := 0, slots := 0, locals := 21 } (va_Pc [.ref hp, .ref ht, .int (nI i), .int (nI j)] (Wd D [(cI, .int), (cJ, .array .int), (cL, .long)] [(hp, .inr (4, [.ref hpa, .int (nI om)])), (hpa, .inl (cI, 150, .inl op)), (ht, .inr (4, [.ref hta, .int (nI on)])), (hta, .inl (cI, 300, .inl ot))] sz))
      (va_Qi (fun (r : Int32) (_ : Unit) => r = nI (px_ch op ot i j)) (fun _ => Wa D [(cI, .int), (cJ, .array .int), (cL, .long)] (va_A [(hp, .inr (4, [.ref hpa, .int (nI om)])), (hpa, .inl (cI, 150, .inl op)), (ht, .inr (4, [.ref hta, .int (nI on)])), (hta, .inl (cI, 300, .inl ot))] sz) ([(hp, .inr (4, [.ref hpa, .int (nI om)])), (hpa, .inl (cI, 150, .inl op)), (ht, .inr (4, [.ref hta, .int (nI on)])), (hta, .inl (cI, 300, .inl ot))])) (va_A [(hp, .inr (4, [.ref hpa, .int (nI om)])), (hpa, .inl (cI, 150, .inl op)), (ht, .inr (4, [.ref hta, .int (nI on)])), (hta, .inl (cI, 300, .inl ot))] sz)) 0 0 (va_A [(hp, .inr (4, [.ref hpa, .int (nI om)])), (hpa, .inl (cI, 150, .inl op)), (ht, .inr (4, [.ref hta, .int (nI on)])), (hta, .inl (cI, 300, .inl ot))] sz) := by
  refine Met.ofW (cc := cX3_changeAt) (maxL := 4) (ret := (some .int)) (by decide) rfl ?_
  intro p e s m args below meth c s₁ B hml hv
  obtain ⟨rfl, hsz, hP, hK, hD0⟩ := hv
  have hx := B.exec
  have hb := B.bytes
  have hr := B.returns
  have hts := atoms_spec (ws := wsX3_changeAt) B.pre
  have hown : s.vm.findClass RX3 = some m.cls := findClass_of_methodNamed B.named
  have hlocks := B.notSynchronized
  subst hsz
  have hD := hD0.self (sz := s.heap.size)
  generalize hAe : va_A [(hp, .inr (4, [.ref hpa, .int (nI om)])), (hpa, .inl (cI, 150, .inl op)), (ht, .inr (4, [.ref hta, .int (nI on)])), (hta, .inl (cI, 300, .inl ot))] s.heap.size = A at hD ⊢
  have hA : ∀ q : Nat, s.heap.size ≤ q → A q := fun q h => by rw [← hAe]; exact Or.inr h
  have hl := lv_entry ([.ref hp, .ref ht, .int (nI i), .int (nI j)]) (n := 4) (Nat.le_of_ble_eq_true rfl)
  rw [lg_entry_eq]
  generalize (lg_sl ([.ref hp, .ref ht, .int (nI i), .int (nI j)]) ++ List.replicate (4 - (lg_sl ([.ref hp, .ref ht, .int (nI i), .int (nI j)])).length) Slot.unset).toArray = ls at hl ⊢
  have hl : lv_has ls 4 [(0, .ref hp), (1, .ref ht), (2, .int (nI i)), (3, .int (nI j))] := hl
  refine hv_start (A := A) (ws := [(hp, .inr (4, [.ref hpa, .int (nI om)])), (hpa, .inl (cI, 150, .inl op)), (ht, .inr (4, [.ref hta, .int (nI on)])), (hta, .inl (cI, 300, .inl ot))]) hP (fun H locs hP hS => ?_)
  refine lv_aload_n hx hb dX3_changeAt_0 rfl (lv_at hl 0 rfl) ?_
  refine lv_iload_n hx hb dX3_changeAt_1 rfl (lv_at hl 2 rfl) ?_
  have fr := fr_x (wc := [(hp, .inr (4, [.ref hpa, .int (nI om)])), (hpa, .inl (cI, 150, .inl op))]) (wr := [(ht, .inr (4, [.ref hta, .int (nI on)])), (hta, .inl (cI, 300, .inl ot))]) hP hD hS hA [0, 1] [2, 3] rfl rfl (by decide) (by decide) (by decide)
  refine cv_i (J := fun _ => [(hp, .inr (4, [.ref hpa, .int (nI om)])), (hpa, .inl (cI, 150, .inl op)), (ht, .inr (4, [.ref hta, .int (nI on)])), (hta, .inl (cI, 300, .inl ot))]) (As := [.int (nI i)]) (rest := []) (q0 := 0) (ci := 4) ⟨hx, hb, hml, hown, hts⟩ (c_X4_signBehind l D cI cJ cL H.size hp hpa 150 om op i (by omega) (by omega)) (cwV 1 hts gX3_changeAt_X4_signBehind rfl rfl rfl (by decide +kernel) ⟨Nat.le_of_ble_eq_true rfl, Nat.le_of_ble_eq_true rfl⟩) hK fr.1 fr.2.1 fr.2.2.1 (fun H1 u hk h1 h2 => ⟨(fr.2.2.2 _ H1 hk h1 h2).1.sub [2, 3, 0, 1] rfl, (fr.2.2.2 _ H1 hk h1 h2).2.sub [2, 3, 0, 1] (by decide) rfl⟩) hS rfl rfl rfl rfl hl.1 rfl (Nat.le_of_ble_eq_true rfl) dX3_changeAt_2 ⟨Nat.zero_le _, Nat.zero_le _⟩ (fun r_2 u_1 H locs hw hP hD hS => ?_)
  subst hw
  refine lv_aload_n hx hb dX3_changeAt_5 rfl (lv_at hl 1 rfl) ?_
  refine lv_iload_n hx hb dX3_changeAt_6 rfl (lv_at hl 3 rfl) ?_
  have fr := fr_x (wc := [(ht, .inr (4, [.ref hta, .int (nI on)])), (hta, .inl (cI, 300, .inl ot))]) (wr := [(hp, .inr (4, [.ref hpa, .int (nI om)])), (hpa, .inl (cI, 150, .inl op))]) hP hD hS hA [2, 3] [0, 1] rfl rfl (by decide) (by decide) (by decide)
  refine cv_i (J := fun _ => [(hp, .inr (4, [.ref hpa, .int (nI om)])), (hpa, .inl (cI, 150, .inl op)), (ht, .inr (4, [.ref hta, .int (nI on)])), (hta, .inl (cI, 300, .inl ot))]) (As := [.int (nI j)]) (rest := [.int (op i)]) (q0 := 0) (ci := 4) ⟨hx, hb, hml, hown, hts⟩ (c_X4_signBehind l D cI cJ cL H.size ht hta 300 on ot j (by omega) (by omega)) (cwV 1 hts gX3_changeAt_X4_signBehind rfl rfl rfl (by decide +kernel) ⟨Nat.le_of_ble_eq_true rfl, Nat.le_of_ble_eq_true rfl⟩) hK fr.1 fr.2.1 fr.2.2.1 (fun H1 u hk h1 h2 => ⟨(fr.2.2.2 _ H1 hk h1 h2).1.sub [0, 1, 2, 3] rfl, (fr.2.2.2 _ H1 hk h1 h2).2.sub [0, 1, 2, 3] (by decide) rfl⟩) hS rfl rfl rfl rfl hl.1 rfl (Nat.le_of_ble_eq_true rfl) dX3_changeAt_7 ⟨Nat.zero_le _, Nat.zero_le _⟩ (fun r_4 u_3 H locs hw hP hD hS => ?_)
  subst hw
  refine lv_icmp_ne (tgt := 17) hx hb dX3_changeAt_10 (by decide) (fun c_10 => ?_) (fun c_10 => ?_)
  · refine lv_iconst (v := 1) hx hb dX3_changeAt_17 (by decide) ?_
    have e9 : px_ch op ot i j = 1 := if_neg c_10
    exact fin_i () hx hb hr hlocks dX3_changeAt_18 hK hS hP hD (by rw [e9]; rfl)
  · refine lv_iconst (v := 0) hx hb dX3_changeAt_13 (by decide) ?_
    refine lv_goto (tgt := 18) hx hb dX3_changeAt_14 (by decide) ?_
    have e9 : px_ch op ot i j = 0 := if_pos c_10
    exact fin_i () hx hb hr hlocks dX3_changeAt_18 hK hS hP hD (by rw [e9]; rfl)

set_option maxHeartbeats 4000000 in
set_option maxRecDepth 100000 in
theorem c_X3_nextStep (l : Launch) (D : va_G) (cI cJ cL : ClassId) (sz : Nat) (sc : Nat) (ss : Nat) (sr : Nat) (len : Nat) (vs : Nat → Int32) (rg : Nat → Option Nat) (hp : Nat) (hpa : Nat) (ht : Nat) (hta : Nat) (om : Nat) (on : Nat) (op : Nat → Int32) (ot : Nat → Int32) (LP : List Nat) (pl : Nat → Nat) (pr : Nat → Nat → Int32) (rM : Nat → Nat → Int32) (st : Nat) (en : Nat) (i : Nat) (j : Nat) (hG : gr_ok rg LP pl pr 151 301 rM) (hom : om ≤ 150) (hon : on ≤ 300) (hen : en ≤ on) (hst : st ≤ en) (hM : ∀ i1, i1 ≤ om → ∀ j1, st ≤ j1 → j1 ≤ en → rM i1 j1 = nI (px_er op ot om en (om - i1) (en - j1))) (hi : i ≤ om) (hj1 : st ≤ j) (hj2 : j ≤ en) :
    Met l yX3_nextStep wsX3_nextStep { frames := 2, cells := 0, slots := 0, locals := 44 } (va_Pc [.ref sc, .ref hp, .ref ht, .int (nI i), .int (nI j), .int (nI en)] (Wd D [(cI, .int), (cJ, .array .int), (cL, .long)] ([(sc, .inr (3, [.ref ss, .int (nI len), .ref sr])), (ss, .inl (cI, 450, .inl vs)), (sr, .inl (cJ, 151, .inr (.inr (.inr (.inr rg))))), (hp, .inr (4, [.ref hpa, .int (nI om)])), (hpa, .inl (cI, 150, .inl op)), (ht, .inr (4, [.ref hta, .int (nI on)])), (hta, .inl (cI, 300, .inl ot))] ++ va_pl LP (gF cI pl pr)) sz))
      (va_Qi (fun (r : Int32) (_ : Unit) => r = px_st op ot om en i j) (fun _ => Wa D [(cI, .int), (cJ, .array .int), (cL, .long)] (va_A ([(sc, .inr (3, [.ref ss, .int (nI len), .ref sr])), (ss, .inl (cI, 450, .inl vs)), (sr, .inl (cJ, 151, .inr (.inr (.inr (.inr rg))))), (hp, .inr (4, [.ref hpa, .int (nI om)])), (hpa, .inl (cI, 150, .inl op)), (ht, .inr (4, [.ref hta, .int (nI on)])), (hta, .inl (cI, 300, .inl ot))] ++ va_pl LP (gF cI pl pr)) sz) (([(sc, .inr (3, [.ref ss, .int (nI len), .ref sr])), (ss, .inl (cI, 450, .inl vs)), (sr, .inl (cJ, 151, .inr (.inr (.inr (.inr rg))))), (hp, .inr (4, [.ref hpa, .int (nI om)])), (hpa, .inl (cI, 150, .inl op)), (ht, .inr (4, [.ref hta, .int (nI on)])), (hta, .inl (cI, 300, .inl ot))] ++ va_pl LP (gF cI pl pr)))) (va_A ([(sc, .inr (3, [.ref ss, .int (nI len), .ref sr])), (ss, .inl (cI, 450, .inl vs)), (sr, .inl (cJ, 151, .inr (.inr (.inr (.inr rg))))), (hp, .inr (4, [.ref hpa, .int (nI om)])), (hpa, .inl (cI, 150, .inl op)), (ht, .inr (4, [.ref hta, .int (nI on)])), (hta, .inl (cI, 300, .inl ot))] ++ va_pl LP (gF cI pl pr)) sz)) 0 0 (va_A ([(sc, .inr (3, [.ref ss, .int (nI len), .ref sr])), (ss, .inl (cI, 450, .inl vs)), (sr, .inl (cJ, 151, .inr (.inr (.inr (.inr rg))))), (hp, .inr (4, [.ref hpa, .int (nI om)])), (hpa, .inl (cI, 150, .inl op)), (ht, .inr (4, [.ref hta, .int (nI on)])), (hta, .inl (cI, 300, .inl ot))] ++ va_pl LP (gF cI pl pr)) sz) := by
  refine Met.ofW (cc := cX3_nextStep) (maxL := 7) (ret := (some .int)) (by decide) rfl ?_
  intro p e s m args below meth c s₁ B hml hv
  obtain ⟨rfl, hsz, hP, hK, hD0⟩ := hv
  have hx := B.exec
  have hb := B.bytes
  have hr := B.returns
  have hts := atoms_spec (ws := wsX3_nextStep) B.pre
  have hown : s.vm.findClass RX3 = some m.cls := findClass_of_methodNamed B.named
  have hlocks := B.notSynchronized
  subst hsz
  have hD := hD0.self (sz := s.heap.size)
  generalize hAe : va_A ([(sc, .inr (3, [.ref ss, .int (nI len), .ref sr])), (ss, .inl (cI, 450, .inl vs)), (sr, .inl (cJ, 151, .inr (.inr (.inr (.inr rg))))), (hp, .inr (4, [.ref hpa, .int (nI om)])), (hpa, .inl (cI, 150, .inl op)), (ht, .inr (4, [.ref hta, .int (nI on)])), (hta, .inl (cI, 300, .inl ot))] ++ va_pl LP (gF cI pl pr)) s.heap.size = A at hD ⊢
  have hA : ∀ q : Nat, s.heap.size ≤ q → A q := fun q h => by rw [← hAe]; exact Or.inr h
  have hl := lv_entry ([.ref sc, .ref hp, .ref ht, .int (nI i), .int (nI j), .int (nI en)]) (n := 7) (Nat.le_of_ble_eq_true rfl)
  rw [lg_entry_eq]
  generalize (lg_sl ([.ref sc, .ref hp, .ref ht, .int (nI i), .int (nI j), .int (nI en)]) ++ List.replicate (7 - (lg_sl ([.ref sc, .ref hp, .ref ht, .int (nI i), .int (nI j), .int (nI en)])).length) Slot.unset).toArray = ls at hl ⊢
  have hl : lv_has ls 7 [(0, .ref sc), (1, .ref hp), (2, .ref ht), (3, .int (nI i)), (4, .int (nI j)), (5, .int (nI en))] := hl
  refine hv_start (A := A) (ws := ([(sc, .inr (3, [.ref ss, .int (nI len), .ref sr])), (ss, .inl (cI, 450, .inl vs)), (sr, .inl (cJ, 151, .inr (.inr (.inr (.inr rg))))), (hp, .inr (4, [.ref hpa, .int (nI om)])), (hpa, .inl (cI, 150, .inl op)), (ht, .inr (4, [.ref hta, .int (nI on)])), (hta, .inl (cI, 300, .inl ot))] ++ va_pl LP (gF cI pl pr))) hP (fun H locs hP hS => ?_)
  have w_0 := hts (.fieldLink RX3 21 "TextAligner$Script" "rest" "[[I") (by decide +kernel)
  have i_X3 : ∀ w ∈ wsX30, w ∈ wsX3_nextStep := by decide +kernel
  have bE0 := px_er_le op ot om en (om - i) (en - j)
  have bE1 := px_er_le op ot om en (om - (i + 1)) (en - (j + 1))
  have bE2 := px_er_le op ot om en (om - (i + 1)) (en - j)
  have bC := px_ch_le op ot i j
  refine lv_iload_n hx hb dX3_nextStep_0 rfl (lv_at hl 3 rfl) ?_
  refine lv_aload_n hx hb dX3_nextStep_1 rfl (lv_at hl 1 rfl) ?_
  have fr := fr_q (X := [(sc, .inr (3, [.ref ss, .int (nI len), .ref sr])), (ss, .inl (cI, 450, .inl vs)), (sr, .inl (cJ, 151, .inr (.inr (.inr (.inr rg))))), (hp, .inr (4, [.ref hpa, .int (nI om)])), (hpa, .inl (cI, 150, .inl op)), (ht, .inr (4, [.ref hta, .int (nI on)])), (hta, .inl (cI, 300, .inl ot))]) (cx := [(hp, .inr (4, [.ref hpa, .int (nI om)])), (hpa, .inl (cI, 150, .inl op))]) (wr := [(sc, .inr (3, [.ref ss, .int (nI len), .ref sr])), (ss, .inl (cI, 450, .inl vs)), (sr, .inl (cJ, 151, .inr (.inr (.inr (.inr rg))))), (ht, .inr (4, [.ref hta, .int (nI on)])), (hta, .inl (cI, 300, .inl ot))]) (pl := va_pl LP (gF cI pl pr)) hP hD hS hA [3, 4] [0, 1, 2, 5, 6] rfl rfl (by decide) (by decide) (by decide)
  refine cv_i (J := fun _ => ([(sc, .inr (3, [.ref ss, .int (nI len), .ref sr])), (ss, .inl (cI, 450, .inl vs)), (sr, .inl (cJ, 151, .inr (.inr (.inr (.inr rg))))), (hp, .inr (4, [.ref hpa, .int (nI om)])), (hpa, .inl (cI, 150, .inl op)), (ht, .inr (4, [.ref hta, .int (nI on)])), (hta, .inl (cI, 300, .inl ot))] ++ va_pl LP (gF cI pl pr))) (As := []) (rest := [.int (nI i)]) (q0 := 0) (ci := 4) ⟨hx, hb, hml, hown, hts⟩ (c_X4_size l D cI cJ cL H.size hp hpa 150 om op ) (cwV 0 hts gX3_nextStep_X4_size rfl rfl rfl (by decide +kernel) ⟨Nat.le_of_ble_eq_true rfl, Nat.le_of_ble_eq_true rfl⟩) hK fr.1 fr.2.1 fr.2.2.1 (fun H1 u hk h1 h2 => ⟨(fr.2.2.2 _ H1 hk h1 h2).1.part [0, 1, 2, 5, 6, 3, 4] rfl, (fr.2.2.2 _ H1 hk h1 h2).2.part [0, 1, 2, 5, 6, 3, 4] (by decide) rfl⟩) hS rfl rfl rfl rfl hl.1 rfl (Nat.le_of_ble_eq_true rfl) dX3_nextStep_2 ⟨Nat.zero_le _, Nat.zero_le _⟩ (fun r_2 u_1 H locs hw hP hD hS => ?_)
  subst hw
  refine lv_icmp_lt (tgt := 10) hx hb dX3_nextStep_5 (by decide) (fun c_5 => ?_) (fun c_5 => ?_)
  · have k_5 : i < om := (nI_ltI (a := i) (b := om) (by omega) (by omega)).mp c_5
    refine lv_iload hx hb dX3_nextStep_10 (lv_at hl 4 rfl) ?_
    refine lv_iload hx hb dX3_nextStep_12 (lv_at hl 5 rfl) ?_
    refine lv_icmp_lt (tgt := 19) hx hb dX3_nextStep_14 (by decide) (fun c_14 => ?_) (fun c_14 => ?_)
    · have k_14 : j < en := (nI_ltI (a := j) (b := en) (by omega) (by omega)).mp c_14
      refine lv_aload_n hx hb dX3_nextStep_19 rfl (lv_at hl 1 rfl) ?_
      refine lv_aload_n hx hb dX3_nextStep_20 rfl (lv_at hl 2 rfl) ?_
      refine lv_iload_n hx hb dX3_nextStep_21 rfl (lv_at hl 3 rfl) ?_
      refine lv_iload hx hb dX3_nextStep_22 (lv_at hl 4 rfl) ?_
      have fr := fr_q (X := [(sc, .inr (3, [.ref ss, .int (nI len), .ref sr])), (ss, .inl (cI, 450, .inl vs)), (sr, .inl (cJ, 151, .inr (.inr (.inr (.inr rg))))), (hp, .inr (4, [.ref hpa, .int (nI om)])), (hpa, .inl (cI, 150, .inl op)), (ht, .inr (4, [.ref hta, .int (nI on)])), (hta, .inl (cI, 300, .inl ot))]) (cx := [(hp, .inr (4, [.ref hpa, .int (nI om)])), (hpa, .inl (cI, 150, .inl op)), (ht, .inr (4, [.ref hta, .int (nI on)])), (hta, .inl (cI, 300, .inl ot))]) (wr := [(sc, .inr (3, [.ref ss, .int (nI len), .ref sr])), (ss, .inl (cI, 450, .inl vs)), (sr, .inl (cJ, 151, .inr (.inr (.inr (.inr rg)))))]) (pl := va_pl LP (gF cI pl pr)) hP hD hS hA [3, 4, 5, 6] [0, 1, 2] rfl rfl (by decide) (by decide) (by decide)
      refine cs_i (J := fun _ => ([(sc, .inr (3, [.ref ss, .int (nI len), .ref sr])), (ss, .inl (cI, 450, .inl vs)), (sr, .inl (cJ, 151, .inr (.inr (.inr (.inr rg))))), (hp, .inr (4, [.ref hpa, .int (nI om)])), (hpa, .inl (cI, 150, .inl op)), (ht, .inr (4, [.ref hta, .int (nI on)])), (hta, .inl (cI, 300, .inl ot))] ++ va_pl LP (gF cI pl pr))) (As := [.ref hp, .ref ht, .int (nI i), .int (nI j)]) (rest := []) ⟨hx, hb, hml, hown, hts⟩ (c_X3_changeAt l D cI cJ cL H.size hp hpa ht hta om on op ot i j (by omega) (by omega)) (va_cwS 4 hts gX3_nextStep_X3_changeAt rfl rfl rfl (by decide +kernel) ⟨Nat.le_of_ble_eq_true rfl, Nat.le_of_ble_eq_true rfl⟩) hK fr.1 fr.2.1 fr.2.2.1 (fun H1 u hk h1 h2 => ⟨(fr.2.2.2 _ H1 hk h1 h2).1.part [0, 1, 2, 3, 4, 5, 6] rfl, (fr.2.2.2 _ H1 hk h1 h2).2.part [0, 1, 2, 3, 4, 5, 6] (by decide) rfl⟩) hS rfl hl.1 rfl (Nat.le_of_ble_eq_true rfl) dX3_nextStep_24 ⟨Nat.zero_le _, Nat.zero_le _⟩ (fun r_4 u_3 H locs hw hP hD hS => ?_)
      subst hw
      refine lv_istore (lv' := [(6, .int (nI (px_ch op ot i j))), (0, .ref sc), (1, .ref hp), (2, .ref ht), (3, .int (nI i)), (4, .int (nI j)), (5, .int (nI en))]) hx hb dX3_nextStep_27 hl (by decide) rfl (fun ls hl => ?_)
      refine lv_aload_n hx hb dX3_nextStep_29 rfl (lv_at hl 1 rfl) ?_
      refine va_get (D := D) (ci := 3) (v := .ref sr) (C := RX3) (T := TX3) (N := 3) hx hb hts i_X3 hown hK hP 0 rfl rfl 2 (by decide) w_0 (fun _ h9 => h9) rfl dX3_nextStep_30 ?_
      refine lv_iload_n hx hb dX3_nextStep_33 rfl (lv_at hl 4 rfl) ?_
      obtain ⟨y_5, y_5a, y_5b, y_5c, y_5d⟩ := hG.1 i (by omega)
      refine va_aldG hx hb hK hP 2 1 rfl rfl (k := i) y_5a (by omega) (by decide) dX3_nextStep_34 ?_
      refine lv_iload hx hb dX3_nextStep_35 (lv_at hl 5 rfl) ?_
      obtain ⟨kq_6, hkq_6⟩ := va_pl_get (X := [(sc, .inr (3, [.ref ss, .int (nI len), .ref sr])), (ss, .inl (cI, 450, .inl vs)), (sr, .inl (cJ, 151, .inr (.inr (.inr (.inr rg))))), (hp, .inr (4, [.ref hpa, .int (nI om)])), (hpa, .inl (cI, 150, .inl op)), (ht, .inr (4, [.ref hta, .int (nI on)])), (hta, .inl (cI, 300, .inl ot))]) (L := LP) (f := gF cI pl pr) y_5b
      refine va_ialdN hx hb hK hP kq_6 0 hkq_6 rfl (k := j) (by rw [y_5c]; exact (by omega)) (by rw [y_5c]; decide) dX3_nextStep_37 ?_
      refine lv_cv (y := rM i j) (y_5d j (by omega)) ?_
      refine lv_cv (y := nI (px_er op ot om en (om - i) (en - j))) (hM i (by omega) j (by omega) (by omega)) ?_
      refine lv_aload_n hx hb dX3_nextStep_38 rfl (lv_at hl 1 rfl) ?_
      refine va_get (D := D) (ci := 3) (v := .ref sr) (C := RX3) (T := TX3) (N := 3) hx hb hts i_X3 hown hK hP 0 rfl rfl 2 (by decide) w_0 (fun _ h9 => h9) rfl dX3_nextStep_39 ?_
      refine lv_iload_n hx hb dX3_nextStep_42 rfl (lv_at hl 4 rfl) ?_
      refine lv_iconst (v := 1) hx hb dX3_nextStep_43 (by decide) ?_
      refine lv_iadd hx hb dX3_nextStep_44 ?_
      refine lv_cv (y := nI (i + 1)) (nI_add i 1) ?_
      obtain ⟨y_7, y_7a, y_7b, y_7c, y_7d⟩ := hG.1 (i + 1) (by omega)
      refine va_aldG hx hb hK hP 2 1 rfl rfl (k := i + 1) y_7a (by omega) (by decide) dX3_nextStep_45 ?_
      refine lv_iload hx hb dX3_nextStep_46 (lv_at hl 5 rfl) ?_
      refine lv_iconst (v := 1) hx hb dX3_nextStep_48 (by decide) ?_
      refine lv_iadd hx hb dX3_nextStep_49 ?_
      refine lv_cv (y := nI (j + 1)) (nI_add j 1) ?_
      obtain ⟨kq_8, hkq_8⟩ := va_pl_get (X := [(sc, .inr (3, [.ref ss, .int (nI len), .ref sr])), (ss, .inl (cI, 450, .inl vs)), (sr, .inl (cJ, 151, .inr (.inr (.inr (.inr rg))))), (hp, .inr (4, [.ref hpa, .int (nI om)])), (hpa, .inl (cI, 150, .inl op)), (ht, .inr (4, [.ref hta, .int (nI on)])), (hta, .inl (cI, 300, .inl ot))]) (L := LP) (f := gF cI pl pr) y_7b
      refine va_ialdN hx hb hK hP kq_8 0 hkq_8 rfl (k := j + 1) (by rw [y_7c]; exact (by omega)) (by rw [y_7c]; decide) dX3_nextStep_50 ?_
      refine lv_cv (y := rM (i + 1) (j + 1)) (y_7d (j + 1) (by omega)) ?_
      refine lv_cv (y := nI (px_er op ot om en (om - (i + 1)) (en - (j + 1)))) (hM (i + 1) (by omega) (j + 1) (by omega) (by omega)) ?_
      refine lv_iload hx hb dX3_nextStep_51 (lv_at hl 0 rfl) ?_
      refine lv_iadd hx hb dX3_nextStep_53 ?_
      refine lv_cv (y := nI (px_er op ot om en (om - (i + 1)) (en - (j + 1)) + (px_ch op ot i j))) (nI_add (px_er op ot om en (om - (i + 1)) (en - (j + 1))) (px_ch op ot i j)) ?_
      refine lv_icmp_ne (tgt := 60) hx hb dX3_nextStep_54 (by decide) (fun c_54 => ?_) (fun c_54 => ?_)
      · have k_54 : ¬ (px_er op ot om en (om - i) (en - j) = px_er op ot om en (om - (i + 1)) (en - (j + 1)) + (px_ch op ot i j)) := fun q => c_54 ((nI_eq (a := px_er op ot om en (om - i) (en - j)) (b := px_er op ot om en (om - (i + 1)) (en - (j + 1)) + (px_ch op ot i j)) (by omega) (by omega)).mpr q)
        refine lv_aload_n hx hb dX3_nextStep_60 rfl (lv_at hl 1 rfl) ?_
        refine va_get (D := D) (ci := 3) (v := .ref sr) (C := RX3) (T := TX3) (N := 3) hx hb hts i_X3 hown hK hP 0 rfl rfl 2 (by decide) w_0 (fun _ h9 => h9) rfl dX3_nextStep_61 ?_
        refine lv_iload_n hx hb dX3_nextStep_64 rfl (lv_at hl 4 rfl) ?_
        obtain ⟨y_9, y_9a, y_9b, y_9c, y_9d⟩ := hG.1 i (by omega)
        refine va_aldG hx hb hK hP 2 1 rfl rfl (k := i) y_9a (by omega) (by decide) dX3_nextStep_65 ?_
        refine lv_iload hx hb dX3_nextStep_66 (lv_at hl 5 rfl) ?_
        obtain ⟨kq_10, hkq_10⟩ := va_pl_get (X := [(sc, .inr (3, [.ref ss, .int (nI len), .ref sr])), (ss, .inl (cI, 450, .inl vs)), (sr, .inl (cJ, 151, .inr (.inr (.inr (.inr rg))))), (hp, .inr (4, [.ref hpa, .int (nI om)])), (hpa, .inl (cI, 150, .inl op)), (ht, .inr (4, [.ref hta, .int (nI on)])), (hta, .inl (cI, 300, .inl ot))]) (L := LP) (f := gF cI pl pr) y_9b
        refine va_ialdN hx hb hK hP kq_10 0 hkq_10 rfl (k := j) (by rw [y_9c]; exact (by omega)) (by rw [y_9c]; decide) dX3_nextStep_68 ?_
        refine lv_cv (y := rM i j) (y_9d j (by omega)) ?_
        refine lv_cv (y := nI (px_er op ot om en (om - i) (en - j))) (hM i (by omega) j (by omega) (by omega)) ?_
        refine lv_aload_n hx hb dX3_nextStep_69 rfl (lv_at hl 1 rfl) ?_
        refine va_get (D := D) (ci := 3) (v := .ref sr) (C := RX3) (T := TX3) (N := 3) hx hb hts i_X3 hown hK hP 0 rfl rfl 2 (by decide) w_0 (fun _ h9 => h9) rfl dX3_nextStep_70 ?_
        refine lv_iload_n hx hb dX3_nextStep_73 rfl (lv_at hl 4 rfl) ?_
        refine lv_iconst (v := 1) hx hb dX3_nextStep_74 (by decide) ?_
        refine lv_iadd hx hb dX3_nextStep_75 ?_
        refine lv_cv (y := nI (i + 1)) (nI_add i 1) ?_
        obtain ⟨y_11, y_11a, y_11b, y_11c, y_11d⟩ := hG.1 (i + 1) (by omega)
        refine va_aldG hx hb hK hP 2 1 rfl rfl (k := i + 1) y_11a (by omega) (by decide) dX3_nextStep_76 ?_
        refine lv_iload hx hb dX3_nextStep_77 (lv_at hl 5 rfl) ?_
        obtain ⟨kq_12, hkq_12⟩ := va_pl_get (X := [(sc, .inr (3, [.ref ss, .int (nI len), .ref sr])), (ss, .inl (cI, 450, .inl vs)), (sr, .inl (cJ, 151, .inr (.inr (.inr (.inr rg))))), (hp, .inr (4, [.ref hpa, .int (nI om)])), (hpa, .inl (cI, 150, .inl op)), (ht, .inr (4, [.ref hta, .int (nI on)])), (hta, .inl (cI, 300, .inl ot))]) (L := LP) (f := gF cI pl pr) y_11b
        refine va_ialdN hx hb hK hP kq_12 0 hkq_12 rfl (k := j) (by rw [y_11c]; exact (by omega)) (by rw [y_11c]; decide) dX3_nextStep_79 ?_
        refine lv_cv (y := rM (i + 1) j) (y_11d j (by omega)) ?_
        refine lv_cv (y := nI (px_er op ot om en (om - (i + 1)) (en - j))) (hM (i + 1) (by omega) j (by omega) (by omega)) ?_
        refine lv_iconst (v := 1) hx hb dX3_nextStep_80 (by decide) ?_
        refine lv_iadd hx hb dX3_nextStep_81 ?_
        refine lv_cv (y := nI (px_er op ot om en (om - (i + 1)) (en - j) + 1)) (nI_add (px_er op ot om en (om - (i + 1)) (en - j)) 1) ?_
        refine lv_icmp_ne (tgt := 89) hx hb dX3_nextStep_82 (by decide) (fun c_82 => ?_) (fun c_82 => ?_)
        · have k_82 : ¬ (px_er op ot om en (om - i) (en - j) = px_er op ot om en (om - (i + 1)) (en - j) + 1) := fun q => c_82 ((nI_eq (a := px_er op ot om en (om - i) (en - j)) (b := px_er op ot om en (om - (i + 1)) (en - j) + 1) (by omega) (by omega)).mpr q)
          refine lv_iconst (v := 3) hx hb dX3_nextStep_89 (by decide) ?_
          have e9 : px_st op ot om en i j = 3 := (by unfold px_st; rw [if_neg (by omega), if_neg (by omega), if_neg k_54, if_neg k_82])
          exact fin_i () hx hb hr hlocks dX3_nextStep_90 hK hS hP hD e9.symm
        · have k_82 : px_er op ot om en (om - i) (en - j) = px_er op ot om en (om - (i + 1)) (en - j) + 1 := (nI_eq (a := px_er op ot om en (om - i) (en - j)) (b := px_er op ot om en (om - (i + 1)) (en - j) + 1) (by omega) (by omega)).mp c_82
          refine lv_iconst (v := 2) hx hb dX3_nextStep_85 (by decide) ?_
          refine lv_goto (tgt := 90) hx hb dX3_nextStep_86 (by decide) ?_
          have e9 : px_st op ot om en i j = 2 := (by unfold px_st; rw [if_neg (by omega), if_neg (by omega), if_neg k_54, if_pos k_82])
          exact fin_i () hx hb hr hlocks dX3_nextStep_90 hK hS hP hD e9.symm
      · have k_54 : px_er op ot om en (om - i) (en - j) = px_er op ot om en (om - (i + 1)) (en - (j + 1)) + (px_ch op ot i j) := (nI_eq (a := px_er op ot om en (om - i) (en - j)) (b := px_er op ot om en (om - (i + 1)) (en - (j + 1)) + (px_ch op ot i j)) (by omega) (by omega)).mp c_54
        refine lv_iload hx hb dX3_nextStep_57 (lv_at hl 0 rfl) ?_
        have e9 : px_st op ot om en i j = nI (px_ch op ot i j) := (by unfold px_st; rw [if_neg (by omega), if_neg (by omega), if_pos k_54])
        exact fin_i () hx hb hr hlocks dX3_nextStep_59 hK hS hP hD e9.symm
    · have k_14 : ¬ (j < en) := fun q => c_14 ((nI_ltI (a := j) (b := en) (by omega) (by omega)).mpr q)
      refine lv_iconst (v := 2) hx hb dX3_nextStep_17 (by decide) ?_
      have e9 : px_st op ot om en i j = 2 := (by unfold px_st; rw [if_neg (by omega), if_pos (by omega)])
      exact fin_i () hx hb hr hlocks dX3_nextStep_18 hK hS hP hD e9.symm
  · have k_5 : ¬ (i < om) := fun q => c_5 ((nI_ltI (a := i) (b := om) (by omega) (by omega)).mpr q)
    refine lv_iconst (v := 3) hx hb dX3_nextStep_8 (by decide) ?_
    have e9 : px_st op ot om en i j = 3 := (by unfold px_st; rw [if_pos (by omega)])
    exact fin_i () hx hb hr hlocks dX3_nextStep_9 hK hS hP hD e9.symm

set_option maxHeartbeats 4000000 in
set_option maxRecDepth 100000 in
theorem c_X3_measureRests (l : Launch) (D : va_G) (cI cJ cL : ClassId) (sz : Nat) (sc : Nat) (ss : Nat) (sr : Nat) (len : Nat) (vs : Nat → Int32) (rg : Nat → Option Nat) (hp : Nat) (hpa : Nat) (ht : Nat) (hta : Nat) (om : Nat) (on : Nat) (op : Nat → Int32) (ot : Nat → Int32) (LP : List Nat) (pl : Nat → Nat) (pr : Nat → Nat → Int32) (rM : Nat → Nat → Int32) (st : Nat) (en : Nat) (hG : gr_ok rg LP pl pr 151 301 rM) (hom : om ≤ 150) (hon : on ≤ 300) (hen : en ≤ on) (hst : st ≤ en) :
    Met l yX3_measureRests wsX3_measureRests { frames := 2, cells := 0, slots := 0, locals := 44 } (va_Pc [.ref sc, .ref hp, .ref ht, .int (nI st), .int (nI en)] (Wd D [(cI, .int), (cJ, .array .int), (cL, .long)] ([(sc, .inr (3, [.ref ss, .int (nI len), .ref sr])), (ss, .inl (cI, 450, .inl vs)), (sr, .inl (cJ, 151, .inr (.inr (.inr (.inr rg))))), (hp, .inr (4, [.ref hpa, .int (nI om)])), (hpa, .inl (cI, 150, .inl op)), (ht, .inr (4, [.ref hta, .int (nI on)])), (hta, .inl (cI, 300, .inl ot))] ++ va_pl LP (gF cI pl pr)) sz))
      (va_Qv (fun (u : (Nat → Nat → Int32) × (Nat → Nat → Int32)) => gr_ok rg LP pl u.1 151 301 u.2 ∧ (∀ i1, i1 ≤ om → ∀ j1, st ≤ j1 → j1 ≤ en → u.2 i1 j1 = nI (px_er op ot om en (om - i1) (en - j1))) ∧ ∀ z, (∀ i, i < 151 → rg i ≠ some z) → u.1 z = pr z) (fun u => Wa D [(cI, .int), (cJ, .array .int), (cL, .long)] (va_A ([(sc, .inr (3, [.ref ss, .int (nI len), .ref sr])), (ss, .inl (cI, 450, .inl vs)), (sr, .inl (cJ, 151, .inr (.inr (.inr (.inr rg))))), (hp, .inr (4, [.ref hpa, .int (nI om)])), (hpa, .inl (cI, 150, .inl op)), (ht, .inr (4, [.ref hta, .int (nI on)])), (hta, .inl (cI, 300, .inl ot))] ++ va_pl LP (gF cI pl pr)) sz) (([(sc, .inr (3, [.ref ss, .int (nI len), .ref sr])), (ss, .inl (cI, 450, .inl vs)), (sr, .inl (cJ, 151, .inr (.inr (.inr (.inr rg))))), (hp, .inr (4, [.ref hpa, .int (nI om)])), (hpa, .inl (cI, 150, .inl op)), (ht, .inr (4, [.ref hta, .int (nI on)])), (hta, .inl (cI, 300, .inl ot))] ++ va_pl LP (gF cI pl u.1)))) (va_A ([(sc, .inr (3, [.ref ss, .int (nI len), .ref sr])), (ss, .inl (cI, 450, .inl vs)), (sr, .inl (cJ, 151, .inr (.inr (.inr (.inr rg))))), (hp, .inr (4, [.ref hpa, .int (nI om)])), (hpa, .inl (cI, 150, .inl op)), (ht, .inr (4, [.ref hta, .int (nI on)])), (hta, .inl (cI, 300, .inl ot))] ++ va_pl LP (gF cI pl pr)) sz)) 0 0 (va_A ([(sc, .inr (3, [.ref ss, .int (nI len), .ref sr])), (ss, .inl (cI, 450, .inl vs)), (sr, .inl (cJ, 151, .inr (.inr (.inr (.inr rg))))), (hp, .inr (4, [.ref hpa, .int (nI om)])), (hpa, .inl (cI, 150, .inl op)), (ht, .inr (4, [.ref hta, .int (nI on)])), (hta, .inl (cI, 300, .inl ot))] ++ va_pl LP (gF cI pl pr)) sz) := by
  refine Met.ofW (cc := cX3_measureRests) (maxL := 9) (ret := none) (by decide) rfl ?_
  intro p e s m args below meth c s₁ B hml hv
  obtain ⟨rfl, hsz, hP, hK, hD0⟩ := hv
  have hx := B.exec
  have hb := B.bytes
  have hr := B.returns
  have hts := atoms_spec (ws := wsX3_measureRests) B.pre
  have hown : s.vm.findClass RX3 = some m.cls := findClass_of_methodNamed B.named
  have hlocks := B.notSynchronized
  subst hsz
  have hD := hD0.self (sz := s.heap.size)
  generalize hAe : va_A ([(sc, .inr (3, [.ref ss, .int (nI len), .ref sr])), (ss, .inl (cI, 450, .inl vs)), (sr, .inl (cJ, 151, .inr (.inr (.inr (.inr rg))))), (hp, .inr (4, [.ref hpa, .int (nI om)])), (hpa, .inl (cI, 150, .inl op)), (ht, .inr (4, [.ref hta, .int (nI on)])), (hta, .inl (cI, 300, .inl ot))] ++ va_pl LP (gF cI pl pr)) s.heap.size = A at hD ⊢
  have hA : ∀ q : Nat, s.heap.size ≤ q → A q := fun q h => by rw [← hAe]; exact Or.inr h
  have hl := lv_entry ([.ref sc, .ref hp, .ref ht, .int (nI st), .int (nI en)]) (n := 9) (Nat.le_of_ble_eq_true rfl)
  rw [lg_entry_eq]
  generalize (lg_sl ([.ref sc, .ref hp, .ref ht, .int (nI st), .int (nI en)]) ++ List.replicate (9 - (lg_sl ([.ref sc, .ref hp, .ref ht, .int (nI st), .int (nI en)])).length) Slot.unset).toArray = ls at hl ⊢
  have hl : lv_has ls 9 [(0, .ref sc), (1, .ref hp), (2, .ref ht), (3, .int (nI st)), (4, .int (nI en))] := hl
  refine hv_start (A := A) (ws := ([(sc, .inr (3, [.ref ss, .int (nI len), .ref sr])), (ss, .inl (cI, 450, .inl vs)), (sr, .inl (cJ, 151, .inr (.inr (.inr (.inr rg))))), (hp, .inr (4, [.ref hpa, .int (nI om)])), (hpa, .inl (cI, 150, .inl op)), (ht, .inr (4, [.ref hta, .int (nI on)])), (hta, .inl (cI, 300, .inl ot))] ++ va_pl LP (gF cI pl pr))) hP (fun H locs hP hS => ?_)
  have w_0 := hts (.fieldLink RX3 21 "TextAligner$Script" "rest" "[[I") (by decide +kernel)
  have i_X3 : ∀ w ∈ wsX30, w ∈ wsX3_measureRests := by decide +kernel
  have w_2 := hts (.methodLink RX3 42 Lib.Math.min.name) (by decide +kernel)
  have w_3 := hts (.static Lib.Math.min.name) (by decide +kernel)
  have w_4 := hts (.initialized "java/lang/Math") (by decide +kernel)
  have w_5 := hts (.code Lib.Math.min.name Lib.Math.min.code 2 (some .int)) (by decide +kernel)
  refine lv_iload_n hx hb dX3_measureRests_0 rfl (lv_at hl 3 rfl) ?_
  refine lv_istore (lv' := [(5, .int (nI st)), (0, .ref sc), (1, .ref hp), (2, .ref ht), (3, .int (nI st)), (4, .int (nI en))]) hx hb dX3_measureRests_1 hl (by decide) rfl (fun ls hl => ?_)
  refine hv_loop (fun zz H locs ls => ∃ (j : Nat) (pA : Nat → Nat → Int32) (MA : Nat → Nat → Int32), st ≤ j ∧ j ≤ en + 1 ∧ (∀ j1, st ≤ j1 → j1 < j → MA om j1 = nI (en - j1)) ∧ gr_ok rg LP pl pA 151 301 MA ∧ (∀ z, (∀ i, i < 151 → rg i ≠ some z) → pA z = pr z) ∧ zz = en + 1 - j ∧ va_P D vwCl ([(sc, .inr (3, [.ref ss, .int (nI len), .ref sr])), (ss, .inl (cI, 450, .inl vs)), (sr, .inl (cJ, 151, .inr (.inr (.inr (.inr rg))))), (hp, .inr (4, [.ref hpa, .int (nI om)])), (hpa, .inl (cI, 150, .inl op)), (ht, .inr (4, [.ref hta, .int (nI on)])), (hta, .inl (cI, 300, .inl ot))] ++ va_pl LP (gF cI pl pA)) H ∧ va_D A ([(sc, .inr (3, [.ref ss, .int (nI len), .ref sr])), (ss, .inl (cI, 450, .inl vs)), (sr, .inl (cJ, 151, .inr (.inr (.inr (.inr rg))))), (hp, .inr (4, [.ref hpa, .int (nI om)])), (hpa, .inl (cI, 150, .inl op)), (ht, .inr (4, [.ref hta, .int (nI on)])), (hta, .inl (cI, 300, .inl ot))] ++ va_pl LP (gF cI pl pA)) ∧ va_S A s.heap H locs ∧ lv_has ls 9 [(0, .ref sc), (1, .ref hp), (2, .ref ht), (3, .int (nI st)), (4, .int (nI en)), (5, .int (nI j))]) ?_ _ ⟨st, pr, rM, by omega, by omega, fun j1 h1 h2 => absurd h1 (by omega), hG, fun z _ => rfl, rfl, hP, hD, hS, lv_sub hl [1, 2, 3, 4, 5, 0] rfl⟩
  intro zz_3 H locs ls hI ih_3
  obtain ⟨j, pA, MA, hj1, hj2, hrow, hGA, hkA, hzz_3, hP, hD, hS, hl⟩ := hI
  refine lv_iload hx hb dX3_measureRests_3 (lv_at hl 5 rfl) ?_
  refine lv_iload hx hb dX3_measureRests_5 (lv_at hl 4 rfl) ?_
  refine lv_icmp_gt (tgt := 33) hx hb dX3_measureRests_7 (by decide) (fun c_7 => ?_) (fun c_7 => ?_)
  · have k_7 : en < j := (nI_ltI (a := en) (b := j) (by omega) (by omega)).mp c_7
    refine lv_aload_n hx hb dX3_measureRests_33 rfl (lv_at hl 1 rfl) ?_
    have fr := fr_q (X := [(sc, .inr (3, [.ref ss, .int (nI len), .ref sr])), (ss, .inl (cI, 450, .inl vs)), (sr, .inl (cJ, 151, .inr (.inr (.inr (.inr rg))))), (hp, .inr (4, [.ref hpa, .int (nI om)])), (hpa, .inl (cI, 150, .inl op)), (ht, .inr (4, [.ref hta, .int (nI on)])), (hta, .inl (cI, 300, .inl ot))]) (cx := [(hp, .inr (4, [.ref hpa, .int (nI om)])), (hpa, .inl (cI, 150, .inl op))]) (wr := [(sc, .inr (3, [.ref ss, .int (nI len), .ref sr])), (ss, .inl (cI, 450, .inl vs)), (sr, .inl (cJ, 151, .inr (.inr (.inr (.inr rg))))), (ht, .inr (4, [.ref hta, .int (nI on)])), (hta, .inl (cI, 300, .inl ot))]) (pl := va_pl LP (gF cI pl pA)) hP hD hS hA [3, 4] [0, 1, 2, 5, 6] rfl rfl (by decide) (by decide) (by decide)
    refine cv_i (J := fun _ => ([(sc, .inr (3, [.ref ss, .int (nI len), .ref sr])), (ss, .inl (cI, 450, .inl vs)), (sr, .inl (cJ, 151, .inr (.inr (.inr (.inr rg))))), (hp, .inr (4, [.ref hpa, .int (nI om)])), (hpa, .inl (cI, 150, .inl op)), (ht, .inr (4, [.ref hta, .int (nI on)])), (hta, .inl (cI, 300, .inl ot))] ++ va_pl LP (gF cI pl pA))) (As := []) (rest := []) (q0 := 0) (ci := 4) ⟨hx, hb, hml, hown, hts⟩ (c_X4_size l D cI cJ cL H.size hp hpa 150 om op ) (cwV 0 hts gX3_measureRests_X4_size rfl rfl rfl (by decide +kernel) ⟨Nat.le_of_ble_eq_true rfl, Nat.le_of_ble_eq_true rfl⟩) hK fr.1 fr.2.1 fr.2.2.1 (fun H1 u hk h1 h2 => ⟨(fr.2.2.2 _ H1 hk h1 h2).1.part [0, 1, 2, 5, 6, 3, 4] rfl, (fr.2.2.2 _ H1 hk h1 h2).2.part [0, 1, 2, 5, 6, 3, 4] (by decide) rfl⟩) hS rfl rfl rfl rfl hl.1 rfl (Nat.le_of_ble_eq_true rfl) dX3_measureRests_34 ⟨Nat.zero_le _, Nat.zero_le _⟩ (fun r_2 u_1 H locs hw hP hD hS => ?_)
    subst hw
    refine lv_iconst (v := 1) hx hb dX3_measureRests_37 (by decide) ?_
    refine lv_isub hx hb dX3_measureRests_38 ?_
    refine lv_istore (lv' := [(5, .int ((nI om) - 1)), (0, .ref sc), (1, .ref hp), (2, .ref ht), (3, .int (nI st)), (4, .int (nI en))]) hx hb dX3_measureRests_39 hl (by decide) rfl (fun ls hl => ?_)
    have hr0 : ∀ i1, om ≤ i1 → i1 ≤ om → ∀ j1, st ≤ j1 → j1 ≤ en → MA i1 j1 = nI (px_er op ot om en (om - i1) (en - j1)) := fun i1 h1 h2 j1 h3 h4 => by
      have e9 : i1 = om := by omega
      subst e9; rw [Nat.sub_self, px_er_0]; exact hrow j1 h3 (by omega)
    refine hv_loop (fun zz H locs ls => ∃ (q4 : Nat) (x4 : Int32) (pB : Nat → Nat → Int32) (MB : Nat → Nat → Int32), q4 ≤ om ∧ x4 = nI q4 + (-1) ∧ (∀ i1, q4 ≤ i1 → i1 ≤ om → ∀ j1, st ≤ j1 → j1 ≤ en → MB i1 j1 = nI (px_er op ot om en (om - i1) (en - j1))) ∧ gr_ok rg LP pl pB 151 301 MB ∧ (∀ z, (∀ i, i < 151 → rg i ≠ some z) → pB z = pr z) ∧ zz = q4 ∧ va_P D vwCl ([(sc, .inr (3, [.ref ss, .int (nI len), .ref sr])), (ss, .inl (cI, 450, .inl vs)), (sr, .inl (cJ, 151, .inr (.inr (.inr (.inr rg))))), (hp, .inr (4, [.ref hpa, .int (nI om)])), (hpa, .inl (cI, 150, .inl op)), (ht, .inr (4, [.ref hta, .int (nI on)])), (hta, .inl (cI, 300, .inl ot))] ++ va_pl LP (gF cI pl pB)) H ∧ va_D A ([(sc, .inr (3, [.ref ss, .int (nI len), .ref sr])), (ss, .inl (cI, 450, .inl vs)), (sr, .inl (cJ, 151, .inr (.inr (.inr (.inr rg))))), (hp, .inr (4, [.ref hpa, .int (nI om)])), (hpa, .inl (cI, 150, .inl op)), (ht, .inr (4, [.ref hta, .int (nI on)])), (hta, .inl (cI, 300, .inl ot))] ++ va_pl LP (gF cI pl pB)) ∧ va_S A s.heap H locs ∧ lv_has ls 9 [(0, .ref sc), (1, .ref hp), (2, .ref ht), (3, .int (nI st)), (4, .int (nI en)), (5, .int x4)]) ?_ _ ⟨om, nI om - 1, pA, MA, by omega, dn_0 om, hr0, hGA, hkA, rfl, hP, hD, hS, lv_sub hl [1, 2, 3, 4, 5, 0] rfl⟩
    intro zz_41 H locs ls hI ih_41
    obtain ⟨q4, x4, pB, MB, hq4, hx4, hd4, hGB, hkB, hzz_41, hP, hD, hS, hl⟩ := hI
    refine lv_iload hx hb dX3_measureRests_41 (lv_at hl 5 rfl) ?_
    refine lv_if_lt (tgt := 161) hx hb dX3_measureRests_43 (by decide) (fun c_43 => ?_) (fun c_43 => ?_)
    · have hq0 := dn_lt hx4 (by omega) c_43
      exact fin_v (pB, MB) hx hb hr hlocks dX3_measureRests_161 hK hS hP hD ⟨hGB, fun i1 h1 j1 h2 h3 => hd4 i1 (by omega) h1 j1 h2 h3, hkB⟩
    · obtain ⟨i, hqi, hxi⟩ := dn_ge hx4 (by omega) c_43
      subst hxi
      refine lv_aload_n hx hb dX3_measureRests_46 rfl (lv_at hl 0 rfl) ?_
      refine va_get (D := D) (ci := 3) (v := .ref sr) (C := RX3) (T := TX3) (N := 3) hx hb hts i_X3 hown hK hP 0 rfl rfl 2 (by decide) w_0 (fun _ h9 => h9) rfl dX3_measureRests_47 ?_
      refine lv_iload hx hb dX3_measureRests_50 (lv_at hl 5 rfl) ?_
      obtain ⟨y_3, y_3a, y_3b, y_3c, y_3d⟩ := hGB.1 i (by omega)
      refine va_aldG hx hb hK hP 2 1 rfl rfl (k := i) y_3a (by omega) (by decide) dX3_measureRests_52 ?_
      refine lv_iload hx hb dX3_measureRests_53 (lv_at hl 4 rfl) ?_
      refine lv_aload_n hx hb dX3_measureRests_55 rfl (lv_at hl 1 rfl) ?_
      have fr := fr_q (X := [(sc, .inr (3, [.ref ss, .int (nI len), .ref sr])), (ss, .inl (cI, 450, .inl vs)), (sr, .inl (cJ, 151, .inr (.inr (.inr (.inr rg))))), (hp, .inr (4, [.ref hpa, .int (nI om)])), (hpa, .inl (cI, 150, .inl op)), (ht, .inr (4, [.ref hta, .int (nI on)])), (hta, .inl (cI, 300, .inl ot))]) (cx := [(hp, .inr (4, [.ref hpa, .int (nI om)])), (hpa, .inl (cI, 150, .inl op))]) (wr := [(sc, .inr (3, [.ref ss, .int (nI len), .ref sr])), (ss, .inl (cI, 450, .inl vs)), (sr, .inl (cJ, 151, .inr (.inr (.inr (.inr rg))))), (ht, .inr (4, [.ref hta, .int (nI on)])), (hta, .inl (cI, 300, .inl ot))]) (pl := va_pl LP (gF cI pl pB)) hP hD hS hA [3, 4] [0, 1, 2, 5, 6] rfl rfl (by decide) (by decide) (by decide)
      refine cv_i (J := fun _ => ([(sc, .inr (3, [.ref ss, .int (nI len), .ref sr])), (ss, .inl (cI, 450, .inl vs)), (sr, .inl (cJ, 151, .inr (.inr (.inr (.inr rg))))), (hp, .inr (4, [.ref hpa, .int (nI om)])), (hpa, .inl (cI, 150, .inl op)), (ht, .inr (4, [.ref hta, .int (nI on)])), (hta, .inl (cI, 300, .inl ot))] ++ va_pl LP (gF cI pl pB))) (As := []) (rest := [.int (nI en), .ref y_3]) (q0 := 0) (ci := 4) ⟨hx, hb, hml, hown, hts⟩ (c_X4_size l D cI cJ cL H.size hp hpa 150 om op ) (cwV 0 hts gX3_measureRests_X4_size rfl rfl rfl (by decide +kernel) ⟨Nat.le_of_ble_eq_true rfl, Nat.le_of_ble_eq_true rfl⟩) hK fr.1 fr.2.1 fr.2.2.1 (fun H1 u hk h1 h2 => ⟨(fr.2.2.2 _ H1 hk h1 h2).1.part [0, 1, 2, 5, 6, 3, 4] rfl, (fr.2.2.2 _ H1 hk h1 h2).2.part [0, 1, 2, 5, 6, 3, 4] (by decide) rfl⟩) hS rfl rfl rfl rfl hl.1 rfl (Nat.le_of_ble_eq_true rfl) dX3_measureRests_56 ⟨Nat.zero_le _, Nat.zero_le _⟩ (fun r_5 u_4 H locs hw hP hD hS => ?_)
      subst hw
      refine lv_iload hx hb dX3_measureRests_59 (lv_at hl 5 rfl) ?_
      refine lv_isub hx hb dX3_measureRests_61 ?_
      refine lv_cv (y := nI (om - i)) (pk_sub (by omega)) ?_
      obtain ⟨kq_6, hkq_6⟩ := va_pl_get (X := [(sc, .inr (3, [.ref ss, .int (nI len), .ref sr])), (ss, .inl (cI, 450, .inl vs)), (sr, .inl (cJ, 151, .inr (.inr (.inr (.inr rg))))), (hp, .inr (4, [.ref hpa, .int (nI om)])), (hpa, .inl (cI, 150, .inl op)), (ht, .inr (4, [.ref hta, .int (nI on)])), (hta, .inl (cI, 300, .inl ot))]) (L := LP) (f := gF cI pl pB) y_3b
      have hDo := hD
      refine va_iastN hx hb hK hP hD hS kq_6 0 hkq_6 rfl (k := en) (x := nI (om - i)) (by rw [y_3c]; exact (by omega)) (by rw [y_3c]; decide) dX3_measureRests_62 (fun H locs hP hD hS => ?_)
      rw [va_pl_set hDo y_3b hkq_6, gF_up] at hP hD
      have hG_7 := gUp_ok (v := nI (om - i)) (j := en) hGB (show i < 151 by omega) y_3a y_3d
      have hk_7 : ∀ z, (∀ i, i < 151 → rg i ≠ some z) → va_up pB y_3 (upd (pB y_3) en (nI (om - i))) z = pr z := fun z hz => (va_up_ne _ _ (fun q => hz i (by omega) (by rw [q]; exact y_3a))).trans (hkB z hz)
      generalize va_up pB y_3 (upd (pB y_3) en (nI (om - i))) = pr_7 at hP hD hG_7 hk_7
      have hP : va_P D vwCl ([(sc, .inr (3, [.ref ss, .int (nI len), .ref sr])), (ss, .inl (cI, 450, .inl vs)), (sr, .inl (cJ, 151, .inr (.inr (.inr (.inr rg))))), (hp, .inr (4, [.ref hpa, .int (nI om)])), (hpa, .inl (cI, 150, .inl op)), (ht, .inr (4, [.ref hta, .int (nI on)])), (hta, .inl (cI, 300, .inl ot))] ++ va_pl LP (gF cI pl pr_7)) H := hP
      have hD : va_D A ([(sc, .inr (3, [.ref ss, .int (nI len), .ref sr])), (ss, .inl (cI, 450, .inl vs)), (sr, .inl (cJ, 151, .inr (.inr (.inr (.inr rg))))), (hp, .inr (4, [.ref hpa, .int (nI om)])), (hpa, .inl (cI, 150, .inl op)), (ht, .inr (4, [.ref hta, .int (nI on)])), (hta, .inl (cI, 300, .inl ot))] ++ va_pl LP (gF cI pl pr_7)) := hD
      refine lv_iload hx hb dX3_measureRests_63 (lv_at hl 4 rfl) ?_
      refine lv_iconst (v := 1) hx hb dX3_measureRests_65 (by decide) ?_
      refine lv_isub hx hb dX3_measureRests_66 ?_
      refine lv_istore (lv' := [(6, .int ((nI en) - 1)), (0, .ref sc), (1, .ref hp), (2, .ref ht), (3, .int (nI st)), (4, .int (nI en)), (5, .int (nI i))]) hx hb dX3_measureRests_67 hl (by decide) rfl (fun ls hl => ?_)
      have hr1 : ∀ i1, i < i1 → i1 ≤ om → ∀ j1, st ≤ j1 → j1 ≤ en → (gUp MB i en (nI (om - i))) i1 j1 = nI (px_er op ot om en (om - i1) (en - j1)) := fun i1 h1 h2 j1 h3 h4 => (gUp_n (fun q => absurd q.1 (by omega))).trans (hd4 i1 (by omega) h2 j1 h3 h4)
      have hr2 : ∀ j1, en ≤ j1 → j1 ≤ en → (gUp MB i en (nI (om - i))) i j1 = nI (px_er op ot om en (om - i) (en - j1)) := fun j1 h1 h2 => by
        have e9 : j1 = en := by omega
        subst e9; rw [Nat.sub_self, px_er_b0]; exact gUp_s
      refine hv_loop (fun zz H locs ls => ∃ (q5 : Nat) (x5 : Int32) (pC : Nat → Nat → Int32) (MC : Nat → Nat → Int32), st ≤ q5 ∧ q5 ≤ en ∧ x5 = nI q5 + (-1) ∧ (∀ i1, i < i1 → i1 ≤ om → ∀ j1, st ≤ j1 → j1 ≤ en → MC i1 j1 = nI (px_er op ot om en (om - i1) (en - j1))) ∧ (∀ j1, q5 ≤ j1 → j1 ≤ en → MC i j1 = nI (px_er op ot om en (om - i) (en - j1))) ∧ gr_ok rg LP pl pC 151 301 MC ∧ (∀ z, (∀ i, i < 151 → rg i ≠ some z) → pC z = pr z) ∧ zz = q5 ∧ va_P D vwCl ([(sc, .inr (3, [.ref ss, .int (nI len), .ref sr])), (ss, .inl (cI, 450, .inl vs)), (sr, .inl (cJ, 151, .inr (.inr (.inr (.inr rg))))), (hp, .inr (4, [.ref hpa, .int (nI om)])), (hpa, .inl (cI, 150, .inl op)), (ht, .inr (4, [.ref hta, .int (nI on)])), (hta, .inl (cI, 300, .inl ot))] ++ va_pl LP (gF cI pl pC)) H ∧ va_D A ([(sc, .inr (3, [.ref ss, .int (nI len), .ref sr])), (ss, .inl (cI, 450, .inl vs)), (sr, .inl (cJ, 151, .inr (.inr (.inr (.inr rg))))), (hp, .inr (4, [.ref hpa, .int (nI om)])), (hpa, .inl (cI, 150, .inl op)), (ht, .inr (4, [.ref hta, .int (nI on)])), (hta, .inl (cI, 300, .inl ot))] ++ va_pl LP (gF cI pl pC)) ∧ va_S A s.heap H locs ∧ lv_has ls 9 [(0, .ref sc), (1, .ref hp), (2, .ref ht), (3, .int (nI st)), (4, .int (nI en)), (5, .int (nI i)), (6, .int x5)]) ?_ _ ⟨en, nI en - 1, pr_7, gUp MB i en (nI (om - i)), by omega, by omega, dn_0 en, hr1, hr2, hG_7, hk_7, rfl, hP, hD, hS, lv_sub hl [1, 2, 3, 4, 5, 6, 0] rfl⟩
      intro zz_69 H locs ls hI ih_69
      obtain ⟨q5, x5, pC, MC, hq5, hq6, hx5, hd5, hr5, hGC, hkC, hzz_69, hP, hD, hS, hl⟩ := hI
      refine lv_iload hx hb dX3_measureRests_69 (lv_at hl 6 rfl) ?_
      refine lv_iload_n hx hb dX3_measureRests_71 rfl (lv_at hl 3 rfl) ?_
      refine lv_icmp_lt (tgt := 155) hx hb dX3_measureRests_72 (by decide) (fun c_72 => ?_) (fun c_72 => ?_)
      · have hq50 := dn_lts hx5 (by omega) (by omega) c_72
        have hall : ∀ i1, i ≤ i1 → i1 ≤ om → ∀ j1, st ≤ j1 → j1 ≤ en → MC i1 j1 = nI (px_er op ot om en (om - i1) (en - j1)) := fun i1 h1 h2 j1 h3 h4 => by
          rcases Nat.lt_or_ge i i1 with q | q
          · exact hd5 i1 q h2 j1 h3 h4
          · have e9 : i1 = i := by omega
            subst e9; exact hr5 j1 (by omega) h4
        refine lv_iinc (v := (nI i) + (-1)) (lv' := [(5, .int ((nI i) + (-1))), (0, .ref sc), (1, .ref hp), (2, .ref ht), (3, .int (nI st)), (4, .int (nI en)), (6, .int x5)]) hx hb dX3_measureRests_155 hl (k := 5) rfl (rfl) (by decide) rfl (fun ls hl => ?_)
        refine lv_goto (tgt := 41) hx hb dX3_measureRests_158 (by decide) ?_
        exact ih_41 (i) _ _ _ (by omega) ⟨i, nI i + (-1), pC, MC, by omega, rfl, hall, hGC, hkC, rfl, hP, hD, hS, lv_sub hl [1, 2, 3, 4, 5, 0] rfl⟩
      · obtain ⟨j, hqj, hxj, hsj⟩ := dn_ges hx5 (by omega) (by omega) c_72
        subst hxj
        have bE0 := px_er_le op ot om en (om - (i + 1)) (en - (j + 1))
        have bE1 := px_er_le op ot om en (om - (i + 1)) (en - j)
        have bE2 := px_er_le op ot om en (om - i) (en - (j + 1))
        have bC := px_ch_le op ot i j
        refine lv_aload_n hx hb dX3_measureRests_75 rfl (lv_at hl 0 rfl) ?_
        refine va_get (D := D) (ci := 3) (v := .ref sr) (C := RX3) (T := TX3) (N := 3) hx hb hts i_X3 hown hK hP 0 rfl rfl 2 (by decide) w_0 (fun _ h9 => h9) rfl dX3_measureRests_76 ?_
        refine lv_iload hx hb dX3_measureRests_79 (lv_at hl 5 rfl) ?_
        refine lv_iconst (v := 1) hx hb dX3_measureRests_81 (by decide) ?_
        refine lv_iadd hx hb dX3_measureRests_82 ?_
        refine lv_cv (y := nI (i + 1)) (nI_add i 1) ?_
        obtain ⟨y_8, y_8a, y_8b, y_8c, y_8d⟩ := hGC.1 (i + 1) (by omega)
        refine va_aldG hx hb hK hP 2 1 rfl rfl (k := i + 1) y_8a (by omega) (by decide) dX3_measureRests_83 ?_
        refine lv_iload hx hb dX3_measureRests_84 (lv_at hl 6 rfl) ?_
        refine lv_iconst (v := 1) hx hb dX3_measureRests_86 (by decide) ?_
        refine lv_iadd hx hb dX3_measureRests_87 ?_
        refine lv_cv (y := nI (j + 1)) (nI_add j 1) ?_
        obtain ⟨kq_9, hkq_9⟩ := va_pl_get (X := [(sc, .inr (3, [.ref ss, .int (nI len), .ref sr])), (ss, .inl (cI, 450, .inl vs)), (sr, .inl (cJ, 151, .inr (.inr (.inr (.inr rg))))), (hp, .inr (4, [.ref hpa, .int (nI om)])), (hpa, .inl (cI, 150, .inl op)), (ht, .inr (4, [.ref hta, .int (nI on)])), (hta, .inl (cI, 300, .inl ot))]) (L := LP) (f := gF cI pl pC) y_8b
        refine va_ialdN hx hb hK hP kq_9 0 hkq_9 rfl (k := j + 1) (by rw [y_8c]; exact (by omega)) (by rw [y_8c]; decide) dX3_measureRests_88 ?_
        refine lv_cv (y := MC (i + 1) (j + 1)) (y_8d (j + 1) (by omega)) ?_
        refine lv_cv (y := nI (px_er op ot om en (om - (i + 1)) (en - (j + 1)))) (hd5 (i + 1) (by omega) (by omega) (j + 1) (by omega) (by omega)) ?_
        refine lv_aload_n hx hb dX3_measureRests_89 rfl (lv_at hl 1 rfl) ?_
        refine lv_aload_n hx hb dX3_measureRests_90 rfl (lv_at hl 2 rfl) ?_
        refine lv_iload hx hb dX3_measureRests_91 (lv_at hl 5 rfl) ?_
        refine lv_iload hx hb dX3_measureRests_93 (lv_at hl 6 rfl) ?_
        have fr := fr_q (X := [(sc, .inr (3, [.ref ss, .int (nI len), .ref sr])), (ss, .inl (cI, 450, .inl vs)), (sr, .inl (cJ, 151, .inr (.inr (.inr (.inr rg))))), (hp, .inr (4, [.ref hpa, .int (nI om)])), (hpa, .inl (cI, 150, .inl op)), (ht, .inr (4, [.ref hta, .int (nI on)])), (hta, .inl (cI, 300, .inl ot))]) (cx := [(hp, .inr (4, [.ref hpa, .int (nI om)])), (hpa, .inl (cI, 150, .inl op)), (ht, .inr (4, [.ref hta, .int (nI on)])), (hta, .inl (cI, 300, .inl ot))]) (wr := [(sc, .inr (3, [.ref ss, .int (nI len), .ref sr])), (ss, .inl (cI, 450, .inl vs)), (sr, .inl (cJ, 151, .inr (.inr (.inr (.inr rg)))))]) (pl := va_pl LP (gF cI pl pC)) hP hD hS hA [3, 4, 5, 6] [0, 1, 2] rfl rfl (by decide) (by decide) (by decide)
        refine cs_i (J := fun _ => ([(sc, .inr (3, [.ref ss, .int (nI len), .ref sr])), (ss, .inl (cI, 450, .inl vs)), (sr, .inl (cJ, 151, .inr (.inr (.inr (.inr rg))))), (hp, .inr (4, [.ref hpa, .int (nI om)])), (hpa, .inl (cI, 150, .inl op)), (ht, .inr (4, [.ref hta, .int (nI on)])), (hta, .inl (cI, 300, .inl ot))] ++ va_pl LP (gF cI pl pC))) (As := [.ref hp, .ref ht, .int (nI i), .int (nI j)]) (rest := [.int (nI (px_er op ot om en (om - (i + 1)) (en - (j + 1))))]) ⟨hx, hb, hml, hown, hts⟩ (c_X3_changeAt l D cI cJ cL H.size hp hpa ht hta om on op ot i j (by omega) (by omega)) (va_cwS 4 hts gX3_measureRests_X3_changeAt rfl rfl rfl (by decide +kernel) ⟨Nat.le_of_ble_eq_true rfl, Nat.le_of_ble_eq_true rfl⟩) hK fr.1 fr.2.1 fr.2.2.1 (fun H1 u hk h1 h2 => ⟨(fr.2.2.2 _ H1 hk h1 h2).1.part [0, 1, 2, 3, 4, 5, 6] rfl, (fr.2.2.2 _ H1 hk h1 h2).2.part [0, 1, 2, 3, 4, 5, 6] (by decide) rfl⟩) hS rfl hl.1 rfl (Nat.le_of_ble_eq_true rfl) dX3_measureRests_95 ⟨Nat.zero_le _, Nat.zero_le _⟩ (fun r_11 u_10 H locs hw hP hD hS => ?_)
        subst hw
        refine lv_iadd hx hb dX3_measureRests_98 ?_
        refine lv_cv (y := nI (px_er op ot om en (om - (i + 1)) (en - (j + 1)) + (px_ch op ot i j))) (nI_add (px_er op ot om en (om - (i + 1)) (en - (j + 1))) (px_ch op ot i j)) ?_
        refine lv_istore (lv' := [(7, .int (nI (px_er op ot om en (om - (i + 1)) (en - (j + 1)) + (px_ch op ot i j)))), (0, .ref sc), (1, .ref hp), (2, .ref ht), (3, .int (nI st)), (4, .int (nI en)), (5, .int (nI i)), (6, .int (nI j))]) hx hb dX3_measureRests_99 hl (by decide) rfl (fun ls hl => ?_)
        refine lv_aload_n hx hb dX3_measureRests_101 rfl (lv_at hl 1 rfl) ?_
        refine va_get (D := D) (ci := 3) (v := .ref sr) (C := RX3) (T := TX3) (N := 3) hx hb hts i_X3 hown hK hP 0 rfl rfl 2 (by decide) w_0 (fun _ h9 => h9) rfl dX3_measureRests_102 ?_
        refine lv_iload hx hb dX3_measureRests_105 (lv_at hl 6 rfl) ?_
        refine lv_iconst (v := 1) hx hb dX3_measureRests_107 (by decide) ?_
        refine lv_iadd hx hb dX3_measureRests_108 ?_
        refine lv_cv (y := nI (i + 1)) (nI_add i 1) ?_
        obtain ⟨y_12, y_12a, y_12b, y_12c, y_12d⟩ := hGC.1 (i + 1) (by omega)
        refine va_aldG hx hb hK hP 2 1 rfl rfl (k := i + 1) y_12a (by omega) (by decide) dX3_measureRests_109 ?_
        refine lv_iload hx hb dX3_measureRests_110 (lv_at hl 7 rfl) ?_
        obtain ⟨kq_13, hkq_13⟩ := va_pl_get (X := [(sc, .inr (3, [.ref ss, .int (nI len), .ref sr])), (ss, .inl (cI, 450, .inl vs)), (sr, .inl (cJ, 151, .inr (.inr (.inr (.inr rg))))), (hp, .inr (4, [.ref hpa, .int (nI om)])), (hpa, .inl (cI, 150, .inl op)), (ht, .inr (4, [.ref hta, .int (nI on)])), (hta, .inl (cI, 300, .inl ot))]) (L := LP) (f := gF cI pl pC) y_12b
        refine va_ialdN hx hb hK hP kq_13 0 hkq_13 rfl (k := j) (by rw [y_12c]; exact (by omega)) (by rw [y_12c]; decide) dX3_measureRests_112 ?_
        refine lv_cv (y := MC (i + 1) j) (y_12d j (by omega)) ?_
        refine lv_cv (y := nI (px_er op ot om en (om - (i + 1)) (en - j))) (hd5 (i + 1) (by omega) (by omega) j (by omega) (by omega)) ?_
        refine lv_aload_n hx hb dX3_measureRests_113 rfl (lv_at hl 1 rfl) ?_
        refine va_get (D := D) (ci := 3) (v := .ref sr) (C := RX3) (T := TX3) (N := 3) hx hb hts i_X3 hown hK hP 0 rfl rfl 2 (by decide) w_0 (fun _ h9 => h9) rfl dX3_measureRests_114 ?_
        refine lv_iload hx hb dX3_measureRests_117 (lv_at hl 6 rfl) ?_
        obtain ⟨y_14, y_14a, y_14b, y_14c, y_14d⟩ := hGC.1 i (by omega)
        refine va_aldG hx hb hK hP 2 1 rfl rfl (k := i) y_14a (by omega) (by decide) dX3_measureRests_119 ?_
        refine lv_iload hx hb dX3_measureRests_120 (lv_at hl 7 rfl) ?_
        refine lv_iconst (v := 1) hx hb dX3_measureRests_122 (by decide) ?_
        refine lv_iadd hx hb dX3_measureRests_123 ?_
        refine lv_cv (y := nI (j + 1)) (nI_add j 1) ?_
        obtain ⟨kq_15, hkq_15⟩ := va_pl_get (X := [(sc, .inr (3, [.ref ss, .int (nI len), .ref sr])), (ss, .inl (cI, 450, .inl vs)), (sr, .inl (cJ, 151, .inr (.inr (.inr (.inr rg))))), (hp, .inr (4, [.ref hpa, .int (nI om)])), (hpa, .inl (cI, 150, .inl op)), (ht, .inr (4, [.ref hta, .int (nI on)])), (hta, .inl (cI, 300, .inl ot))]) (L := LP) (f := gF cI pl pC) y_14b
        refine va_ialdN hx hb hK hP kq_15 0 hkq_15 rfl (k := j + 1) (by rw [y_14c]; exact (by omega)) (by rw [y_14c]; decide) dX3_measureRests_124 ?_
        refine lv_cv (y := MC i (j + 1)) (y_14d (j + 1) (by omega)) ?_
        refine lv_cv (y := nI (px_er op ot om en (om - i) (en - (j + 1)))) (hr5 (j + 1) (by omega) (by omega)) ?_
        refine va_mmin hx hb (by rw [hml]; exact hl.1.symm) hown w_2 w_3 w_4 w_5 (Nat.le_of_ble_eq_true rfl) (Nat.le_of_ble_eq_true rfl) (Nat.le_of_ble_eq_true rfl) (Nat.le_of_ble_eq_true rfl) dX3_measureRests_125 ?_
        refine lv_cv (y := nI (min (px_er op ot om en (om - (i + 1)) (en - j)) (px_er op ot om en (om - i) (en - (j + 1))))) (px_min (by omega) (by omega)) ?_
        refine lv_iconst (v := 1) hx hb dX3_measureRests_128 (by decide) ?_
        refine lv_iadd hx hb dX3_measureRests_129 ?_
        refine lv_cv (y := nI (min (px_er op ot om en (om - (i + 1)) (en - j)) (px_er op ot om en (om - i) (en - (j + 1))) + 1)) (nI_add (min (px_er op ot om en (om - (i + 1)) (en - j)) (px_er op ot om en (om - i) (en - (j + 1)))) 1) ?_
        refine lv_istore (lv' := [(8, .int (nI (min (px_er op ot om en (om - (i + 1)) (en - j)) (px_er op ot om en (om - i) (en - (j + 1))) + 1))), (7, .int (nI (px_er op ot om en (om - (i + 1)) (en - (j + 1)) + (px_ch op ot i j)))), (0, .ref sc), (1, .ref hp), (2, .ref ht), (3, .int (nI st)), (4, .int (nI en)), (5, .int (nI i)), (6, .int (nI j))]) hx hb dX3_measureRests_130 hl (by decide) rfl (fun ls hl => ?_)
        refine lv_aload_n hx hb dX3_measureRests_132 rfl (lv_at hl 2 rfl) ?_
        refine va_get (D := D) (ci := 3) (v := .ref sr) (C := RX3) (T := TX3) (N := 3) hx hb hts i_X3 hown hK hP 0 rfl rfl 2 (by decide) w_0 (fun _ h9 => h9) rfl dX3_measureRests_133 ?_
        refine lv_iload hx hb dX3_measureRests_136 (lv_at hl 7 rfl) ?_
        obtain ⟨y_16, y_16a, y_16b, y_16c, y_16d⟩ := hGC.1 i (by omega)
        refine va_aldG hx hb hK hP 2 1 rfl rfl (k := i) y_16a (by omega) (by decide) dX3_measureRests_138 ?_
        refine lv_iload hx hb dX3_measureRests_139 (lv_at hl 8 rfl) ?_
        refine lv_iload hx hb dX3_measureRests_141 (lv_at hl 1 rfl) ?_
        refine lv_iload hx hb dX3_measureRests_143 (lv_at hl 0 rfl) ?_
        refine va_mmin hx hb (by rw [hml]; exact hl.1.symm) hown w_2 w_3 w_4 w_5 (Nat.le_of_ble_eq_true rfl) (Nat.le_of_ble_eq_true rfl) (Nat.le_of_ble_eq_true rfl) (Nat.le_of_ble_eq_true rfl) dX3_measureRests_145 ?_
        refine lv_cv (y := nI (min (px_er op ot om en (om - (i + 1)) (en - (j + 1)) + (px_ch op ot i j)) (min (px_er op ot om en (om - (i + 1)) (en - j)) (px_er op ot om en (om - i) (en - (j + 1))) + 1))) (px_min (by omega) (by omega)) ?_
        obtain ⟨kq_17, hkq_17⟩ := va_pl_get (X := [(sc, .inr (3, [.ref ss, .int (nI len), .ref sr])), (ss, .inl (cI, 450, .inl vs)), (sr, .inl (cJ, 151, .inr (.inr (.inr (.inr rg))))), (hp, .inr (4, [.ref hpa, .int (nI om)])), (hpa, .inl (cI, 150, .inl op)), (ht, .inr (4, [.ref hta, .int (nI on)])), (hta, .inl (cI, 300, .inl ot))]) (L := LP) (f := gF cI pl pC) y_16b
        have hDo := hD
        refine va_iastN hx hb hK hP hD hS kq_17 0 hkq_17 rfl (k := j) (x := nI (min (px_er op ot om en (om - (i + 1)) (en - (j + 1)) + (px_ch op ot i j)) (min (px_er op ot om en (om - (i + 1)) (en - j)) (px_er op ot om en (om - i) (en - (j + 1))) + 1))) (by rw [y_16c]; exact (by omega)) (by rw [y_16c]; decide) dX3_measureRests_148 (fun H locs hP hD hS => ?_)
        rw [va_pl_set hDo y_16b hkq_17, gF_up] at hP hD
        have hG_18 := gUp_ok (v := nI (min (px_er op ot om en (om - (i + 1)) (en - (j + 1)) + (px_ch op ot i j)) (min (px_er op ot om en (om - (i + 1)) (en - j)) (px_er op ot om en (om - i) (en - (j + 1))) + 1))) (j := j) hGC (show i < 151 by omega) y_16a y_16d
        have hk_18 : ∀ z, (∀ i, i < 151 → rg i ≠ some z) → va_up pC y_16 (upd (pC y_16) j (nI (min (px_er op ot om en (om - (i + 1)) (en - (j + 1)) + (px_ch op ot i j)) (min (px_er op ot om en (om - (i + 1)) (en - j)) (px_er op ot om en (om - i) (en - (j + 1))) + 1)))) z = pr z := fun z hz => (va_up_ne _ _ (fun q => hz i (by omega) (by rw [q]; exact y_16a))).trans (hkC z hz)
        generalize va_up pC y_16 (upd (pC y_16) j (nI (min (px_er op ot om en (om - (i + 1)) (en - (j + 1)) + (px_ch op ot i j)) (min (px_er op ot om en (om - (i + 1)) (en - j)) (px_er op ot om en (om - i) (en - (j + 1))) + 1)))) = pr_18 at hP hD hG_18 hk_18
        have hP : va_P D vwCl ([(sc, .inr (3, [.ref ss, .int (nI len), .ref sr])), (ss, .inl (cI, 450, .inl vs)), (sr, .inl (cJ, 151, .inr (.inr (.inr (.inr rg))))), (hp, .inr (4, [.ref hpa, .int (nI om)])), (hpa, .inl (cI, 150, .inl op)), (ht, .inr (4, [.ref hta, .int (nI on)])), (hta, .inl (cI, 300, .inl ot))] ++ va_pl LP (gF cI pl pr_18)) H := hP
        have hD : va_D A ([(sc, .inr (3, [.ref ss, .int (nI len), .ref sr])), (ss, .inl (cI, 450, .inl vs)), (sr, .inl (cJ, 151, .inr (.inr (.inr (.inr rg))))), (hp, .inr (4, [.ref hpa, .int (nI om)])), (hpa, .inl (cI, 150, .inl op)), (ht, .inr (4, [.ref hta, .int (nI on)])), (hta, .inl (cI, 300, .inl ot))] ++ va_pl LP (gF cI pl pr_18)) := hD
        refine lv_iinc (v := (nI j) + (-1)) (lv' := [(6, .int ((nI j) + (-1))), (8, .int (nI (min (px_er op ot om en (om - (i + 1)) (en - j)) (px_er op ot om en (om - i) (en - (j + 1))) + 1))), (7, .int (nI (px_er op ot om en (om - (i + 1)) (en - (j + 1)) + (px_ch op ot i j)))), (0, .ref sc), (1, .ref hp), (2, .ref ht), (3, .int (nI st)), (4, .int (nI en)), (5, .int (nI i))]) hx hb dX3_measureRests_149 hl (k := 8) rfl (rfl) (by decide) rfl (fun ls hl => ?_)
        refine lv_goto (tgt := 69) hx hb dX3_measureRests_152 (by decide) ?_
        exact ih_69 (j) _ _ _ (by omega) ⟨j, nI j + (-1), pr_18, gUp MC i j (nI (min (px_er op ot om en (om - (i + 1)) (en - (j + 1)) + (px_ch op ot i j)) (min (px_er op ot om en (om - (i + 1)) (en - j)) (px_er op ot om en (om - i) (en - (j + 1))) + 1))), by omega, by omega, rfl, fun i1 h1 h2 j1 h3 h4 => (gUp_n (fun q => absurd q.1 (by omega))).trans (hd5 i1 h1 h2 j1 h3 h4), fun j1 h1 h2 => by
            by_cases e9 : j1 = j
            · rw [e9, px_erA (i := i) (j := j) (by omega) (by omega)]; exact gUp_s
            · exact (gUp_n (fun q => e9 q.2)).trans (hr5 j1 (by omega) h2)
           , hG_18, hk_18, rfl, hP, hD, hS, lv_sub hl [3, 4, 5, 6, 7, 8, 0] rfl⟩
  · have k_7 : ¬ (en < j) := fun q => c_7 ((nI_ltI (a := en) (b := j) (by omega) (by omega)).mpr q)
    refine lv_aload_n hx hb dX3_measureRests_10 rfl (lv_at hl 0 rfl) ?_
    refine va_get (D := D) (ci := 3) (v := .ref sr) (C := RX3) (T := TX3) (N := 3) hx hb hts i_X3 hown hK hP 0 rfl rfl 2 (by decide) w_0 (fun _ h9 => h9) rfl dX3_measureRests_11 ?_
    refine lv_aload_n hx hb dX3_measureRests_14 rfl (lv_at hl 1 rfl) ?_
    have fr := fr_q (X := [(sc, .inr (3, [.ref ss, .int (nI len), .ref sr])), (ss, .inl (cI, 450, .inl vs)), (sr, .inl (cJ, 151, .inr (.inr (.inr (.inr rg))))), (hp, .inr (4, [.ref hpa, .int (nI om)])), (hpa, .inl (cI, 150, .inl op)), (ht, .inr (4, [.ref hta, .int (nI on)])), (hta, .inl (cI, 300, .inl ot))]) (cx := [(hp, .inr (4, [.ref hpa, .int (nI om)])), (hpa, .inl (cI, 150, .inl op))]) (wr := [(sc, .inr (3, [.ref ss, .int (nI len), .ref sr])), (ss, .inl (cI, 450, .inl vs)), (sr, .inl (cJ, 151, .inr (.inr (.inr (.inr rg))))), (ht, .inr (4, [.ref hta, .int (nI on)])), (hta, .inl (cI, 300, .inl ot))]) (pl := va_pl LP (gF cI pl pA)) hP hD hS hA [3, 4] [0, 1, 2, 5, 6] rfl rfl (by decide) (by decide) (by decide)
    refine cv_i (J := fun _ => ([(sc, .inr (3, [.ref ss, .int (nI len), .ref sr])), (ss, .inl (cI, 450, .inl vs)), (sr, .inl (cJ, 151, .inr (.inr (.inr (.inr rg))))), (hp, .inr (4, [.ref hpa, .int (nI om)])), (hpa, .inl (cI, 150, .inl op)), (ht, .inr (4, [.ref hta, .int (nI on)])), (hta, .inl (cI, 300, .inl ot))] ++ va_pl LP (gF cI pl pA))) (As := []) (rest := [.ref sr]) (q0 := 0) (ci := 4) ⟨hx, hb, hml, hown, hts⟩ (c_X4_size l D cI cJ cL H.size hp hpa 150 om op ) (cwV 0 hts gX3_measureRests_X4_size rfl rfl rfl (by decide +kernel) ⟨Nat.le_of_ble_eq_true rfl, Nat.le_of_ble_eq_true rfl⟩) hK fr.1 fr.2.1 fr.2.2.1 (fun H1 u hk h1 h2 => ⟨(fr.2.2.2 _ H1 hk h1 h2).1.part [0, 1, 2, 5, 6, 3, 4] rfl, (fr.2.2.2 _ H1 hk h1 h2).2.part [0, 1, 2, 5, 6, 3, 4] (by decide) rfl⟩) hS rfl rfl rfl rfl hl.1 rfl (Nat.le_of_ble_eq_true rfl) dX3_measureRests_15 ⟨Nat.zero_le _, Nat.zero_le _⟩ (fun r_20 u_19 H locs hw hP hD hS => ?_)
    subst hw
    obtain ⟨y_21, y_21a, y_21b, y_21c, y_21d⟩ := hGA.1 om (by omega)
    refine va_aldG hx hb hK hP 2 1 rfl rfl (k := om) y_21a (by omega) (by decide) dX3_measureRests_18 ?_
    refine lv_iload hx hb dX3_measureRests_19 (lv_at hl 5 rfl) ?_
    refine lv_iload hx hb dX3_measureRests_21 (lv_at hl 4 rfl) ?_
    refine lv_iload hx hb dX3_measureRests_23 (lv_at hl 5 rfl) ?_
    refine lv_isub hx hb dX3_measureRests_25 ?_
    refine lv_cv (y := nI (en - j)) (pk_sub (by omega)) ?_
    obtain ⟨kq_22, hkq_22⟩ := va_pl_get (X := [(sc, .inr (3, [.ref ss, .int (nI len), .ref sr])), (ss, .inl (cI, 450, .inl vs)), (sr, .inl (cJ, 151, .inr (.inr (.inr (.inr rg))))), (hp, .inr (4, [.ref hpa, .int (nI om)])), (hpa, .inl (cI, 150, .inl op)), (ht, .inr (4, [.ref hta, .int (nI on)])), (hta, .inl (cI, 300, .inl ot))]) (L := LP) (f := gF cI pl pA) y_21b
    have hDo := hD
    refine va_iastN hx hb hK hP hD hS kq_22 0 hkq_22 rfl (k := j) (x := nI (en - j)) (by rw [y_21c]; exact (by omega)) (by rw [y_21c]; decide) dX3_measureRests_26 (fun H locs hP hD hS => ?_)
    rw [va_pl_set hDo y_21b hkq_22, gF_up] at hP hD
    have hG_23 := gUp_ok (v := nI (en - j)) (j := j) hGA (show om < 151 by omega) y_21a y_21d
    have hk_23 : ∀ z, (∀ i, i < 151 → rg i ≠ some z) → va_up pA y_21 (upd (pA y_21) j (nI (en - j))) z = pr z := fun z hz => (va_up_ne _ _ (fun q => hz om (by omega) (by rw [q]; exact y_21a))).trans (hkA z hz)
    generalize va_up pA y_21 (upd (pA y_21) j (nI (en - j))) = pr_23 at hP hD hG_23 hk_23
    have hP : va_P D vwCl ([(sc, .inr (3, [.ref ss, .int (nI len), .ref sr])), (ss, .inl (cI, 450, .inl vs)), (sr, .inl (cJ, 151, .inr (.inr (.inr (.inr rg))))), (hp, .inr (4, [.ref hpa, .int (nI om)])), (hpa, .inl (cI, 150, .inl op)), (ht, .inr (4, [.ref hta, .int (nI on)])), (hta, .inl (cI, 300, .inl ot))] ++ va_pl LP (gF cI pl pr_23)) H := hP
    have hD : va_D A ([(sc, .inr (3, [.ref ss, .int (nI len), .ref sr])), (ss, .inl (cI, 450, .inl vs)), (sr, .inl (cJ, 151, .inr (.inr (.inr (.inr rg))))), (hp, .inr (4, [.ref hpa, .int (nI om)])), (hpa, .inl (cI, 150, .inl op)), (ht, .inr (4, [.ref hta, .int (nI on)])), (hta, .inl (cI, 300, .inl ot))] ++ va_pl LP (gF cI pl pr_23)) := hD
    refine lv_iinc (v := nI (j + 1)) (lv' := [(5, .int (nI (j + 1))), (0, .ref sc), (1, .ref hp), (2, .ref ht), (3, .int (nI st)), (4, .int (nI en))]) hx hb dX3_measureRests_27 hl (k := 5) rfl (nI_add j 1) (by decide) rfl (fun ls hl => ?_)
    refine lv_goto (tgt := 3) hx hb dX3_measureRests_30 (by decide) ?_
    exact ih_3 (en + 1 - (j + 1)) _ _ _ (by omega) ⟨j + 1, pr_23, gUp MA om j (nI (en - j)), by omega, by omega, fun j1 h1 h2 => by
        by_cases e9 : j1 = j
        · subst e9; exact gUp_s
        · exact (gUp_n (fun q => e9 q.2)).trans (hrow j1 h1 (by omega))
       , hG_23, hk_23, rfl, hP, hD, hS, lv_sub hl [1, 2, 3, 4, 5, 0] rfl⟩
