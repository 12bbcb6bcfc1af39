set_option maxHeartbeats 4000000 in
set_option maxRecDepth 100000 in
theorem c_X3_write (l : Launch) (D : va_G) (cI cJ cL : ClassId) (sz : Nat) (sc : Nat) (ss : Nat) (sr : Nat) (len : Nat) (vs : Nat → Int32) (rg : Nat → Option Nat) (hp : Nat) (hpa : Nat) (ht : Nat) (hta : Nat) (om : Nat) (on : Nat) (op : Nat → Int32) (ot : Nat → Int32) (LP : List Nat) (pl : Nat → Nat) (pr : Nat → Nat → Int32) (rM : Nat → Nat → Int32) (st : Nat) (en : Nat) (hG : gr_ok rg LP pl pr 151 301 rM) (hom : om ≤ 150) (hon : on ≤ 300) (hen : en ≤ on) (hst : st ≤ en) :
    Met l yX3_write wsX3_write { frames := 3, cells := 0, slots := 0, locals := 72 } (va_Pc [.ref sc, .ref hp, .ref ht, .int (nI st), .int (nI en)] (Wd D [(cI, .int), (cJ, .array .int), (cL, .long)] ([(sc, .inr (3, [.ref ss, .int (nI len), .ref sr])), (ss, .inl (cI, 450, .inl vs)), (sr, .inl (cJ, 151, .inr (.inr (.inr (.inr rg))))), (hp, .inr (4, [.ref hpa, .int (nI om)])), (hpa, .inl (cI, 150, .inl op)), (ht, .inr (4, [.ref hta, .int (nI on)])), (hta, .inl (cI, 300, .inl ot))] ++ va_pl LP (gF cI pl pr)) sz))
      (va_Qv (fun (u : Nat × (Nat → Int32) × (Nat → Nat → Int32) × (Nat → Nat → Int32)) => px_sc op ot om st en u.1 u.2.1 ∧ u.1 ≤ 450 ∧ gr_ok rg LP pl u.2.2.1 151 301 u.2.2.2 ∧ ∀ z, (∀ i, i < 151 → rg i ≠ some z) → u.2.2.1 z = pr z) (fun u => Wa D [(cI, .int), (cJ, .array .int), (cL, .long)] (va_A ([(sc, .inr (3, [.ref ss, .int (nI len), .ref sr])), (ss, .inl (cI, 450, .inl vs)), (sr, .inl (cJ, 151, .inr (.inr (.inr (.inr rg))))), (hp, .inr (4, [.ref hpa, .int (nI om)])), (hpa, .inl (cI, 150, .inl op)), (ht, .inr (4, [.ref hta, .int (nI on)])), (hta, .inl (cI, 300, .inl ot))] ++ va_pl LP (gF cI pl pr)) sz) (([(sc, .inr (3, [.ref ss, .int (nI u.1), .ref sr])), (ss, .inl (cI, 450, .inl u.2.1)), (sr, .inl (cJ, 151, .inr (.inr (.inr (.inr rg))))), (hp, .inr (4, [.ref hpa, .int (nI om)])), (hpa, .inl (cI, 150, .inl op)), (ht, .inr (4, [.ref hta, .int (nI on)])), (hta, .inl (cI, 300, .inl ot))] ++ va_pl LP (gF cI pl u.2.2.1)))) (va_A ([(sc, .inr (3, [.ref ss, .int (nI len), .ref sr])), (ss, .inl (cI, 450, .inl vs)), (sr, .inl (cJ, 151, .inr (.inr (.inr (.inr rg))))), (hp, .inr (4, [.ref hpa, .int (nI om)])), (hpa, .inl (cI, 150, .inl op)), (ht, .inr (4, [.ref hta, .int (nI on)])), (hta, .inl (cI, 300, .inl ot))] ++ va_pl LP (gF cI pl pr)) sz)) 0 0 (va_A ([(sc, .inr (3, [.ref ss, .int (nI len), .ref sr])), (ss, .inl (cI, 450, .inl vs)), (sr, .inl (cJ, 151, .inr (.inr (.inr (.inr rg))))), (hp, .inr (4, [.ref hpa, .int (nI om)])), (hpa, .inl (cI, 150, .inl op)), (ht, .inr (4, [.ref hta, .int (nI on)])), (hta, .inl (cI, 300, .inl ot))] ++ va_pl LP (gF cI pl pr)) sz) := by
  refine Met.ofW (cc := cX3_write) (maxL := 9) (ret := none) (by decide) rfl ?_
  intro p e s m args below meth c s₁ B hml hv
  obtain ⟨rfl, hsz, hP, hK, hD0⟩ := hv
  have hx := B.exec
  have hb := B.bytes
  have hr := B.returns
  have hts := atoms_spec (ws := wsX3_write) B.pre
  have hown : s.vm.findClass RX3 = some m.cls := findClass_of_methodNamed B.named
  have hlocks := B.notSynchronized
  subst hsz
  have hD := hD0.self (sz := s.heap.size)
  generalize hAe : va_A ([(sc, .inr (3, [.ref ss, .int (nI len), .ref sr])), (ss, .inl (cI, 450, .inl vs)), (sr, .inl (cJ, 151, .inr (.inr (.inr (.inr rg))))), (hp, .inr (4, [.ref hpa, .int (nI om)])), (hpa, .inl (cI, 150, .inl op)), (ht, .inr (4, [.ref hta, .int (nI on)])), (hta, .inl (cI, 300, .inl ot))] ++ va_pl LP (gF cI pl pr)) s.heap.size = A at hD ⊢
  have hA : ∀ q : Nat, s.heap.size ≤ q → A q := fun q h => by rw [← hAe]; exact Or.inr h
  have hl := lv_entry ([.ref sc, .ref hp, .ref ht, .int (nI st), .int (nI en)]) (n := 9) (Nat.le_of_ble_eq_true rfl)
  rw [lg_entry_eq]
  generalize (lg_sl ([.ref sc, .ref hp, .ref ht, .int (nI st), .int (nI en)]) ++ List.replicate (9 - (lg_sl ([.ref sc, .ref hp, .ref ht, .int (nI st), .int (nI en)])).length) Slot.unset).toArray = ls at hl ⊢
  have hl : lv_has ls 9 [(0, .ref sc), (1, .ref hp), (2, .ref ht), (3, .int (nI st)), (4, .int (nI en))] := hl
  refine hv_start (A := A) (ws := ([(sc, .inr (3, [.ref ss, .int (nI len), .ref sr])), (ss, .inl (cI, 450, .inl vs)), (sr, .inl (cJ, 151, .inr (.inr (.inr (.inr rg))))), (hp, .inr (4, [.ref hpa, .int (nI om)])), (hpa, .inl (cI, 150, .inl op)), (ht, .inr (4, [.ref hta, .int (nI on)])), (hta, .inl (cI, 300, .inl ot))] ++ va_pl LP (gF cI pl pr))) hP (fun H locs hP hS => ?_)
  have w_0 := hts (.fieldLink RX3 15 "TextAligner$Script" "length" "I") (by decide +kernel)
  have i_X3 : ∀ w ∈ wsX30, w ∈ wsX3_write := by decide +kernel
  have w_2 := hts (.fieldLink RX3 9 "TextAligner$Script" "steps" "[I") (by decide +kernel)
  refine lv_aload_n hx hb dX3_write_0 rfl (lv_at hl 0 rfl) ?_
  refine lv_aload_n hx hb dX3_write_1 rfl (lv_at hl 1 rfl) ?_
  refine lv_aload_n hx hb dX3_write_2 rfl (lv_at hl 2 rfl) ?_
  refine lv_iload_n hx hb dX3_write_3 rfl (lv_at hl 3 rfl) ?_
  refine lv_iload hx hb dX3_write_4 (lv_at hl 4 rfl) ?_
  have fr := fr_p (X := [(sc, .inr (3, [.ref ss, .int (nI len), .ref sr])), (ss, .inl (cI, 450, .inl vs)), (sr, .inl (cJ, 151, .inr (.inr (.inr (.inr rg))))), (hp, .inr (4, [.ref hpa, .int (nI om)])), (hpa, .inl (cI, 150, .inl op)), (ht, .inr (4, [.ref hta, .int (nI on)])), (hta, .inl (cI, 300, .inl ot))]) (cx := [(sc, .inr (3, [.ref ss, .int (nI len), .ref sr])), (ss, .inl (cI, 450, .inl vs)), (sr, .inl (cJ, 151, .inr (.inr (.inr (.inr rg))))), (hp, .inr (4, [.ref hpa, .int (nI om)])), (hpa, .inl (cI, 150, .inl op)), (ht, .inr (4, [.ref hta, .int (nI on)])), (hta, .inl (cI, 300, .inl ot))]) (wr := []) (pl := va_pl LP (gF cI pl pr)) hP hD hS hA [0, 1, 2, 3, 4, 5, 6] [] rfl rfl (by decide) (by decide) (by decide)
  refine cv_v (J := fun u => ([(sc, .inr (3, [.ref ss, .int (nI len), .ref sr])), (ss, .inl (cI, 450, .inl vs)), (sr, .inl (cJ, 151, .inr (.inr (.inr (.inr rg))))), (hp, .inr (4, [.ref hpa, .int (nI om)])), (hpa, .inl (cI, 150, .inl op)), (ht, .inr (4, [.ref hta, .int (nI on)])), (hta, .inl (cI, 300, .inl ot))] ++ va_pl LP (gF cI pl u.1))) (As := [.ref hp, .ref ht, .int (nI st), .int (nI en)]) (rest := []) (q0 := 0) (ci := 3) ⟨hx, hb, hml, hown, hts⟩ (c_X3_measureRests l D cI cJ cL H.size sc ss sr len vs rg hp hpa ht hta om on op ot LP pl pr rM st en hG hom hon hen hst) (cwV 4 hts gX3_write_X3_measureRests rfl rfl rfl (by decide +kernel) ⟨Nat.le_of_ble_eq_true rfl, Nat.le_of_ble_eq_true rfl⟩) hK fr.1 fr.2.1 fr.2.2.1 (fun H1 u hk h1 h2 => ⟨(fr.2.2.2 _ _ H1 hk h1 h2).1.part [0, 1, 2, 3, 4, 5, 6] rfl, (fr.2.2.2 _ _ H1 hk h1 h2).2.part [0, 1, 2, 3, 4, 5, 6] (by decide) rfl⟩) hS rfl rfl rfl rfl hl.1 rfl (Nat.le_of_ble_eq_true rfl) dX3_write_6 ⟨Nat.zero_le _, Nat.zero_le _⟩ (fun u_1 H locs hw hP hD hS => ?_)
  obtain ⟨hGm, hMm, hkm⟩ := hw
  refine lv_aload_n hx hb dX3_write_9 rfl (lv_at hl 0 rfl) ?_
  refine lv_iconst (v := 0) hx hb dX3_write_10 (by decide) ?_
  refine W.eq (g2 := F0 m 11 ls [.int (nI 0), .ref sc]) rfl ?_
  refine va_put (D := D) (ci := 3) (v := .int (nI 0)) (ty := .int) (C := RX3) (T := TX3) (N := 3) hx hb hts i_X3 tyX3 tyX3_ok nmX3 hown hK hP hD hS 0 rfl rfl 1 (by decide) w_0 (fun _ h9 => h9) rfl (by decide +kernel) rfl rfl (Nat.le_of_ble_eq_true rfl) dX3_write_11 (fun H locs hP hD hS => ?_)
  have hP : va_P D vwCl ([(sc, .inr (3, [.ref ss, .int (nI 0), .ref sr])), (ss, .inl (cI, 450, .inl vs)), (sr, .inl (cJ, 151, .inr (.inr (.inr (.inr rg))))), (hp, .inr (4, [.ref hpa, .int (nI om)])), (hpa, .inl (cI, 150, .inl op)), (ht, .inr (4, [.ref hta, .int (nI on)])), (hta, .inl (cI, 300, .inl ot))] ++ va_pl LP (gF cI pl u_1.1)) H := hP
  have hD : va_D A ([(sc, .inr (3, [.ref ss, .int (nI 0), .ref sr])), (ss, .inl (cI, 450, .inl vs)), (sr, .inl (cJ, 151, .inr (.inr (.inr (.inr rg))))), (hp, .inr (4, [.ref hpa, .int (nI om)])), (hpa, .inl (cI, 150, .inl op)), (ht, .inr (4, [.ref hta, .int (nI on)])), (hta, .inl (cI, 300, .inl ot))] ++ va_pl LP (gF cI pl u_1.1)) := hD
  refine lv_iconst (v := 0) hx hb dX3_write_14 (by decide) ?_
  refine lv_istore (lv' := [(5, .int 0), (0, .ref sc), (1, .ref hp), (2, .ref ht), (3, .int (nI st)), (4, .int (nI en))]) hx hb dX3_write_15 hl (by decide) rfl (fun ls hl => ?_)
  refine lv_iload_n hx hb dX3_write_17 rfl (lv_at hl 4 rfl) ?_
  refine lv_istore (lv' := [(6, .int (nI st)), (5, .int 0), (0, .ref sc), (1, .ref hp), (2, .ref ht), (3, .int (nI st)), (4, .int (nI en))]) hx hb dX3_write_18 hl (by decide) rfl (fun ls hl => ?_)
  refine lv_iconst (v := 0) hx hb dX3_write_20 (by decide) ?_
  refine lv_istore (lv' := [(7, .int 0), (6, .int (nI st)), (5, .int 0), (0, .ref sc), (1, .ref hp), (2, .ref ht), (3, .int (nI st)), (4, .int (nI en))]) hx hb dX3_write_21 hl (by decide) rfl (fun ls hl => ?_)
  refine hv_loop (fun zz H locs ls => ∃ (k : Nat) (i : Nat) (j : Nat) (sc9 : Nat → Int32), (px_tr op ot om st en k) = (i, j) ∧ (∀ k1, k1 < k → ¬ (om ≤ (px_tr op ot om st en k1).1 ∧ en ≤ (px_tr op ot om st en k1).2)) ∧ (∀ k1, k1 < k → sc9 k1 = px_st op ot om en (px_tr op ot om st en k1).1 (px_tr op ot om st en k1).2) ∧ zz = 450 - k ∧ va_P D vwCl ([(sc, .inr (3, [.ref ss, .int (nI k), .ref sr])), (ss, .inl (cI, 450, .inl sc9)), (sr, .inl (cJ, 151, .inr (.inr (.inr (.inr rg))))), (hp, .inr (4, [.ref hpa, .int (nI om)])), (hpa, .inl (cI, 150, .inl op)), (ht, .inr (4, [.ref hta, .int (nI on)])), (hta, .inl (cI, 300, .inl ot))] ++ va_pl LP (gF cI pl u_1.1)) H ∧ va_D A ([(sc, .inr (3, [.ref ss, .int (nI k), .ref sr])), (ss, .inl (cI, 450, .inl sc9)), (sr, .inl (cJ, 151, .inr (.inr (.inr (.inr rg))))), (hp, .inr (4, [.ref hpa, .int (nI om)])), (hpa, .inl (cI, 150, .inl op)), (ht, .inr (4, [.ref hta, .int (nI on)])), (hta, .inl (cI, 300, .inl ot))] ++ va_pl LP (gF cI pl u_1.1)) ∧ va_S A s.heap H locs ∧ lv_has ls 9 [(0, .ref sc), (1, .ref hp), (2, .ref ht), (3, .int (nI st)), (4, .int (nI en)), (5, .int (nI i)), (6, .int (nI j)), (7, .int (nI k))]) ?_ _ ⟨0, 0, st, vs, rfl, fun k1 h => absurd h (Nat.not_lt_zero k1), fun k1 h => absurd h (Nat.not_lt_zero k1), rfl, hP, hD, hS, lv_sub hl [3, 4, 5, 6, 7, 2, 1, 0] rfl⟩
  intro zz_23 H locs ls hI ih_23
  obtain ⟨k, i, j, sc9, htr, hun, hsc, hzz_23, hP, hD, hS, hl⟩ := hI
  refine lv_iload hx hb dX3_write_23 (lv_at hl 7 rfl) ?_
  have hin : i ≤ om ∧ st ≤ j ∧ j ≤ en ∧ st + k ≤ i + j := by
    have h := px_tr_in (p := op) (t := ot) (m := om) (st := st) (en := en) hst k hun
    rw [htr] at h; exact h
  refine lv_sipush (v := 450) hx hb dX3_write_25 (by decide) ?_
  refine lv_icmp_ge (tgt := 118) hx hb dX3_write_28 (by decide) (fun c_28 => ?_) (fun c_28 => ?_)
  · have k_28 : 450 ≤ k := (nI_leI (a := 450) (b := k) (by omega) (by omega)).mp c_28
    exact fin_v (k, sc9, u_1.1, u_1.2) hx hb hr hlocks dX3_write_118 hK hS hP hD ⟨⟨by rw [htr]; exact ⟨(show om ≤ i by omega), (show en ≤ j by omega)⟩, hun, hsc⟩, (show k ≤ 450 by omega), hGm, hkm⟩
  · have k_28 : ¬ (450 ≤ k) := fun q => c_28 ((nI_leI (a := 450) (b := k) (by omega) (by omega)).mpr q)
    refine lv_iload hx hb dX3_write_31 (lv_at hl 5 rfl) ?_
    refine lv_aload_n hx hb dX3_write_33 rfl (lv_at hl 1 rfl) ?_
    have fr := fr_q (X := [(sc, .inr (3, [.ref ss, .int (nI k), .ref sr])), (ss, .inl (cI, 450, .inl sc9)), (sr, .inl (cJ, 151, .inr (.inr (.inr (.inr rg))))), (hp, .inr (4, [.ref hpa, .int (nI om)])), (hpa, .inl (cI, 150, .inl op)), (ht, .inr (4, [.ref hta, .int (nI on)])), (hta, .inl (cI, 300, .inl ot))]) (cx := [(hp, .inr (4, [.ref hpa, .int (nI om)])), (hpa, .inl (cI, 150, .inl op))]) (wr := [(sc, .inr (3, [.ref ss, .int (nI k), .ref sr])), (ss, .inl (cI, 450, .inl sc9)), (sr, .inl (cJ, 151, .inr (.inr (.inr (.inr rg))))), (ht, .inr (4, [.ref hta, .int (nI on)])), (hta, .inl (cI, 300, .inl ot))]) (pl := va_pl LP (gF cI pl u_1.1)) hP hD hS hA [3, 4] [0, 1, 2, 5, 6] rfl rfl (by decide) (by decide) (by decide)
    refine cv_i (J := fun _ => ([(sc, .inr (3, [.ref ss, .int (nI k), .ref sr])), (ss, .inl (cI, 450, .inl sc9)), (sr, .inl (cJ, 151, .inr (.inr (.inr (.inr rg))))), (hp, .inr (4, [.ref hpa, .int (nI om)])), (hpa, .inl (cI, 150, .inl op)), (ht, .inr (4, [.ref hta, .int (nI on)])), (hta, .inl (cI, 300, .inl ot))] ++ va_pl LP (gF cI pl u_1.1))) (As := []) (rest := [.int (nI i)]) (q0 := 0) (ci := 4) ⟨hx, hb, hml, hown, hts⟩ (c_X4_size l D cI cJ cL H.size hp hpa 150 om op ) (cwV 0 hts gX3_write_X4_size rfl rfl rfl (by decide +kernel) ⟨Nat.le_of_ble_eq_true rfl, Nat.le_of_ble_eq_true rfl⟩) hK fr.1 fr.2.1 fr.2.2.1 (fun H1 u hk h1 h2 => ⟨(fr.2.2.2 _ H1 hk h1 h2).1.part [0, 1, 2, 5, 6, 3, 4] rfl, (fr.2.2.2 _ H1 hk h1 h2).2.part [0, 1, 2, 5, 6, 3, 4] (by decide) rfl⟩) hS rfl rfl rfl rfl hl.1 rfl (Nat.le_of_ble_eq_true rfl) dX3_write_34 ⟨Nat.zero_le _, Nat.zero_le _⟩ (fun r_4 u_3 H locs hw hP hD hS => ?_)
    subst hw
    refine lv_icmp_lt (tgt := 47) hx hb dX3_write_37 (by decide) (fun c_37 => ?_) (fun c_37 => ?_)
    · have k_37 : i < om := (nI_ltI (a := i) (b := om) (by omega) (by omega)).mp c_37
      refine lv_aload_n hx hb dX3_write_47 rfl (lv_at hl 0 rfl) ?_
      refine lv_aload_n hx hb dX3_write_48 rfl (lv_at hl 1 rfl) ?_
      refine lv_aload_n hx hb dX3_write_49 rfl (lv_at hl 2 rfl) ?_
      refine lv_iload hx hb dX3_write_50 (lv_at hl 5 rfl) ?_
      refine lv_iload hx hb dX3_write_52 (lv_at hl 6 rfl) ?_
      refine lv_iload hx hb dX3_write_54 (lv_at hl 4 rfl) ?_
      have fr := fr_p (X := [(sc, .inr (3, [.ref ss, .int (nI k), .ref sr])), (ss, .inl (cI, 450, .inl sc9)), (sr, .inl (cJ, 151, .inr (.inr (.inr (.inr rg))))), (hp, .inr (4, [.ref hpa, .int (nI om)])), (hpa, .inl (cI, 150, .inl op)), (ht, .inr (4, [.ref hta, .int (nI on)])), (hta, .inl (cI, 300, .inl ot))]) (cx := [(sc, .inr (3, [.ref ss, .int (nI k), .ref sr])), (ss, .inl (cI, 450, .inl sc9)), (sr, .inl (cJ, 151, .inr (.inr (.inr (.inr rg))))), (hp, .inr (4, [.ref hpa, .int (nI om)])), (hpa, .inl (cI, 150, .inl op)), (ht, .inr (4, [.ref hta, .int (nI on)])), (hta, .inl (cI, 300, .inl ot))]) (wr := []) (pl := va_pl LP (gF cI pl u_1.1)) hP hD hS hA [0, 1, 2, 3, 4, 5, 6] [] rfl rfl (by decide) (by decide) (by decide)
      refine cv_i (J := fun _ => ([(sc, .inr (3, [.ref ss, .int (nI k), .ref sr])), (ss, .inl (cI, 450, .inl sc9)), (sr, .inl (cJ, 151, .inr (.inr (.inr (.inr rg))))), (hp, .inr (4, [.ref hpa, .int (nI om)])), (hpa, .inl (cI, 150, .inl op)), (ht, .inr (4, [.ref hta, .int (nI on)])), (hta, .inl (cI, 300, .inl ot))] ++ va_pl LP (gF cI pl u_1.1))) (As := [.ref hp, .ref ht, .int (nI i), .int (nI j), .int (nI en)]) (rest := []) (q0 := 0) (ci := 3) ⟨hx, hb, hml, hown, hts⟩ (c_X3_nextStep l D cI cJ cL H.size sc ss sr k sc9 rg hp hpa ht hta om on op ot LP pl u_1.1 u_1.2 st en i j hGm hom hon hen hst hMm (by omega) (by omega) (by omega)) (cwV 5 hts gX3_write_X3_nextStep rfl rfl rfl (by decide +kernel) ⟨Nat.le_of_ble_eq_true rfl, Nat.le_of_ble_eq_true rfl⟩) hK fr.1 fr.2.1 fr.2.2.1 (fun H1 u hk h1 h2 => ⟨(fr.2.2.2 _ _ H1 hk h1 h2).1.part [0, 1, 2, 3, 4, 5, 6] rfl, (fr.2.2.2 _ _ H1 hk h1 h2).2.part [0, 1, 2, 3, 4, 5, 6] (by decide) rfl⟩) hS rfl rfl rfl rfl hl.1 rfl (Nat.le_of_ble_eq_true rfl) dX3_write_56 ⟨Nat.zero_le _, Nat.zero_le _⟩ (fun r_6 u_5 H locs hw hP hD hS => ?_)
      subst hw
      refine lv_istore (lv' := [(8, .int (px_st op ot om en i j)), (0, .ref sc), (1, .ref hp), (2, .ref ht), (3, .int (nI st)), (4, .int (nI en)), (5, .int (nI i)), (6, .int (nI j)), (7, .int (nI k))]) hx hb dX3_write_59 hl (by decide) rfl (fun ls hl => ?_)
      refine lv_aload_n hx hb dX3_write_61 rfl (lv_at hl 1 rfl) ?_
      refine va_get (D := D) (ci := 3) (v := .ref ss) (C := RX3) (T := TX3) (N := 3) hx hb hts i_X3 hown hK hP 0 rfl rfl 0 (by decide) w_2 (fun _ h9 => h9) rfl dX3_write_62 ?_
      refine lv_iload hx hb dX3_write_65 (lv_at hl 8 rfl) ?_
      refine lv_iload hx hb dX3_write_67 (lv_at hl 0 rfl) ?_
      refine va_iastN hx hb hK hP hD hS 1 0 rfl rfl (k := k) (x := px_st op ot om en i j) (by omega) (by decide) dX3_write_69 (fun H locs hP hD hS => ?_)
      have hP : va_P D vwCl ([(sc, .inr (3, [.ref ss, .int (nI k), .ref sr])), (ss, .inl (cI, 450, .inl (upd sc9 k (px_st op ot om en i j)))), (sr, .inl (cJ, 151, .inr (.inr (.inr (.inr rg))))), (hp, .inr (4, [.ref hpa, .int (nI om)])), (hpa, .inl (cI, 150, .inl op)), (ht, .inr (4, [.ref hta, .int (nI on)])), (hta, .inl (cI, 300, .inl ot))] ++ va_pl LP (gF cI pl u_1.1)) H := hP
      have hD : va_D A ([(sc, .inr (3, [.ref ss, .int (nI k), .ref sr])), (ss, .inl (cI, 450, .inl (upd sc9 k (px_st op ot om en i j)))), (sr, .inl (cJ, 151, .inr (.inr (.inr (.inr rg))))), (hp, .inr (4, [.ref hpa, .int (nI om)])), (hpa, .inl (cI, 150, .inl op)), (ht, .inr (4, [.ref hta, .int (nI on)])), (hta, .inl (cI, 300, .inl ot))] ++ va_pl LP (gF cI pl u_1.1)) := hD
      refine lv_aload_n hx hb dX3_write_70 rfl (lv_at hl 1 rfl) ?_
      refine lv_dup hx hb dX3_write_71 rfl ?_
      refine va_get (D := D) (ci := 3) (v := .int (nI k)) (C := RX3) (T := TX3) (N := 3) hx hb hts i_X3 hown hK hP 0 rfl rfl 1 (by decide) w_0 (fun _ h9 => h9) rfl dX3_write_72 ?_
      refine lv_iconst (v := 1) hx hb dX3_write_75 (by decide) ?_
      refine lv_iadd hx hb dX3_write_76 ?_
      refine lv_cv (y := nI (k + 1)) (nI_add k 1) ?_
      refine va_put (D := D) (ci := 3) (v := .int (nI (k + 1))) (ty := .int) (C := RX3) (T := TX3) (N := 3) hx hb hts i_X3 tyX3 tyX3_ok nmX3 hown hK hP hD hS 0 rfl rfl 1 (by decide) w_0 (fun _ h9 => h9) rfl (by decide +kernel) rfl rfl (Nat.le_of_ble_eq_true rfl) dX3_write_77 (fun H locs hP hD hS => ?_)
      have hP : va_P D vwCl ([(sc, .inr (3, [.ref ss, .int (nI (k + 1)), .ref sr])), (ss, .inl (cI, 450, .inl (upd sc9 k (px_st op ot om en i j)))), (sr, .inl (cJ, 151, .inr (.inr (.inr (.inr rg))))), (hp, .inr (4, [.ref hpa, .int (nI om)])), (hpa, .inl (cI, 150, .inl op)), (ht, .inr (4, [.ref hta, .int (nI on)])), (hta, .inl (cI, 300, .inl ot))] ++ va_pl LP (gF cI pl u_1.1)) H := hP
      have hD : va_D A ([(sc, .inr (3, [.ref ss, .int (nI (k + 1)), .ref sr])), (ss, .inl (cI, 450, .inl (upd sc9 k (px_st op ot om en i j)))), (sr, .inl (cJ, 151, .inr (.inr (.inr (.inr rg))))), (hp, .inr (4, [.ref hpa, .int (nI om)])), (hpa, .inl (cI, 150, .inl op)), (ht, .inr (4, [.ref hta, .int (nI on)])), (hta, .inl (cI, 300, .inl ot))] ++ va_pl LP (gF cI pl u_1.1)) := hD
      refine lv_iload hx hb dX3_write_80 (lv_at hl 6 rfl) ?_
      refine lv_iload hx hb dX3_write_82 (lv_at hl 0 rfl) ?_
      refine lv_iconst (v := 3) hx hb dX3_write_84 (by decide) ?_
      refine lv_icmp_ne (tgt := 92) hx hb dX3_write_85 (by decide) (fun c_85 => ?_) (fun c_85 => ?_)
      · refine lv_iconst (v := 1) hx hb dX3_write_92 (by decide) ?_
        refine lv_iadd hx hb dX3_write_93 ?_
        refine lv_cv (y := nI (i + 1)) (nI_1 i) ?_
        refine lv_istore (lv' := [(5, .int (nI (i + 1))), (8, .int (px_st op ot om en i j)), (0, .ref sc), (1, .ref hp), (2, .ref ht), (3, .int (nI st)), (4, .int (nI en)), (6, .int (nI j)), (7, .int (nI k))]) hx hb dX3_write_94 hl (by decide) rfl (fun ls hl => ?_)
        refine lv_iload hx hb dX3_write_96 (lv_at hl 7 rfl) ?_
        refine lv_iload hx hb dX3_write_98 (lv_at hl 1 rfl) ?_
        refine lv_iconst (v := 2) hx hb dX3_write_100 (by decide) ?_
        refine lv_icmp_ne (tgt := 108) hx hb dX3_write_101 (by decide) (fun c_101 => ?_) (fun c_101 => ?_)
        · refine lv_iconst (v := 1) hx hb dX3_write_108 (by decide) ?_
          refine lv_iadd hx hb dX3_write_109 ?_
          refine lv_cv (y := nI (j + 1)) (nI_1 j) ?_
          refine lv_istore (lv' := [(6, .int (nI (j + 1))), (5, .int (nI (i + 1))), (8, .int (px_st op ot om en i j)), (0, .ref sc), (1, .ref hp), (2, .ref ht), (3, .int (nI st)), (4, .int (nI en)), (7, .int (nI k))]) hx hb dX3_write_110 hl (by decide) rfl (fun ls hl => ?_)
          refine lv_iinc (v := nI (k + 1)) (lv' := [(7, .int (nI (k + 1))), (6, .int (nI (j + 1))), (5, .int (nI (i + 1))), (8, .int (px_st op ot om en i j)), (0, .ref sc), (1, .ref hp), (2, .ref ht), (3, .int (nI st)), (4, .int (nI en))]) hx hb dX3_write_112 hl (k := 8) rfl (nI_add k 1) (by decide) rfl (fun ls hl => ?_)
          refine lv_goto (tgt := 23) hx hb dX3_write_115 (by decide) ?_
          have ht9 : (px_tr op ot om st en (k + 1)) = (i + 1, j + 1) := by rw [px_tr_g htr, if_neg c_85, if_neg c_101]
          exact ih_23 (450 - (k + 1)) _ _ _ (by omega) ⟨k + 1, i + 1, j + 1, upd sc9 k (px_st op ot om en i j), ht9, px_un_s htr hun (by omega), px_sc_s htr hsc rfl, rfl, hP, hD, hS, lv_sub hl [4, 5, 6, 7, 8, 2, 1, 0] rfl⟩
        · refine lv_iconst (v := 0) hx hb dX3_write_104 (by decide) ?_
          refine lv_goto (tgt := 109) hx hb dX3_write_105 (by decide) ?_
          refine lv_iadd hx hb dX3_write_109 ?_
          refine lv_cv (y := nI j) (Int32.add_zero _) ?_
          refine lv_istore (lv' := [(6, .int (nI j)), (5, .int (nI (i + 1))), (8, .int (px_st op ot om en i j)), (0, .ref sc), (1, .ref hp), (2, .ref ht), (3, .int (nI st)), (4, .int (nI en)), (7, .int (nI k))]) hx hb dX3_write_110 hl (by decide) rfl (fun ls hl => ?_)
          refine lv_iinc (v := nI (k + 1)) (lv' := [(7, .int (nI (k + 1))), (6, .int (nI j)), (5, .int (nI (i + 1))), (8, .int (px_st op ot om en i j)), (0, .ref sc), (1, .ref hp), (2, .ref ht), (3, .int (nI st)), (4, .int (nI en))]) hx hb dX3_write_112 hl (k := 8) rfl (nI_add k 1) (by decide) rfl (fun ls hl => ?_)
          refine lv_goto (tgt := 23) hx hb dX3_write_115 (by decide) ?_
          have ht9 : (px_tr op ot om st en (k + 1)) = (i + 1, j) := by rw [px_tr_g htr, if_neg c_85, if_pos c_101]
          exact ih_23 (450 - (k + 1)) _ _ _ (by omega) ⟨k + 1, i + 1, j, upd sc9 k (px_st op ot om en i j), ht9, px_un_s htr hun (by omega), px_sc_s htr hsc rfl, rfl, hP, hD, hS, lv_sub hl [4, 5, 6, 7, 8, 2, 1, 0] rfl⟩
      · refine lv_iconst (v := 0) hx hb dX3_write_88 (by decide) ?_
        refine lv_goto (tgt := 93) hx hb dX3_write_89 (by decide) ?_
        refine lv_iadd hx hb dX3_write_93 ?_
        refine lv_cv (y := nI i) (Int32.add_zero _) ?_
        refine lv_istore (lv' := [(5, .int (nI i)), (8, .int (px_st op ot om en i j)), (0, .ref sc), (1, .ref hp), (2, .ref ht), (3, .int (nI st)), (4, .int (nI en)), (6, .int (nI j)), (7, .int (nI k))]) hx hb dX3_write_94 hl (by decide) rfl (fun ls hl => ?_)
        refine lv_iload hx hb dX3_write_96 (lv_at hl 7 rfl) ?_
        refine lv_iload hx hb dX3_write_98 (lv_at hl 1 rfl) ?_
        refine lv_iconst (v := 2) hx hb dX3_write_100 (by decide) ?_
        refine lv_icmp_ne (tgt := 108) hx hb dX3_write_101 (by decide) (fun c_101 => ?_) (fun c_101 => ?_)
        · refine lv_iconst (v := 1) hx hb dX3_write_108 (by decide) ?_
          refine lv_iadd hx hb dX3_write_109 ?_
          refine lv_cv (y := nI (j + 1)) (nI_1 j) ?_
          refine lv_istore (lv' := [(6, .int (nI (j + 1))), (5, .int (nI i)), (8, .int (px_st op ot om en i j)), (0, .ref sc), (1, .ref hp), (2, .ref ht), (3, .int (nI st)), (4, .int (nI en)), (7, .int (nI k))]) hx hb dX3_write_110 hl (by decide) rfl (fun ls hl => ?_)
          refine lv_iinc (v := nI (k + 1)) (lv' := [(7, .int (nI (k + 1))), (6, .int (nI (j + 1))), (5, .int (nI i)), (8, .int (px_st op ot om en i j)), (0, .ref sc), (1, .ref hp), (2, .ref ht), (3, .int (nI st)), (4, .int (nI en))]) hx hb dX3_write_112 hl (k := 8) rfl (nI_add k 1) (by decide) rfl (fun ls hl => ?_)
          refine lv_goto (tgt := 23) hx hb dX3_write_115 (by decide) ?_
          have ht9 : (px_tr op ot om st en (k + 1)) = (i, j + 1) := by rw [px_tr_g htr, if_pos c_85, if_neg c_101]
          exact ih_23 (450 - (k + 1)) _ _ _ (by omega) ⟨k + 1, i, j + 1, upd sc9 k (px_st op ot om en i j), ht9, px_un_s htr hun (by omega), px_sc_s htr hsc rfl, rfl, hP, hD, hS, lv_sub hl [4, 5, 6, 7, 8, 2, 1, 0] rfl⟩
        · exact absurd (c_85.symm.trans c_101) (by decide)
    · have k_37 : ¬ (i < om) := fun q => c_37 ((nI_ltI (a := i) (b := om) (by omega) (by omega)).mpr q)
      refine lv_iload hx hb dX3_write_40 (lv_at hl 6 rfl) ?_
      refine lv_iload hx hb dX3_write_42 (lv_at hl 4 rfl) ?_
      refine lv_icmp_ge (tgt := 118) hx hb dX3_write_44 (by decide) (fun c_44 => ?_) (fun c_44 => ?_)
      · have k_44 : en ≤ j := (nI_leI (a := en) (b := j) (by omega) (by omega)).mp c_44
        exact fin_v (k, sc9, u_1.1, u_1.2) hx hb hr hlocks dX3_write_118 hK hS hP hD ⟨⟨by rw [htr]; exact ⟨(show om ≤ i by omega), (show en ≤ j by omega)⟩, hun, hsc⟩, (show k ≤ 450 by omega), hGm, hkm⟩
      · have k_44 : ¬ (en ≤ j) := fun q => c_44 ((nI_leI (a := en) (b := j) (by omega) (by omega)).mpr q)
        refine lv_aload_n hx hb dX3_write_47 rfl (lv_at hl 0 rfl) ?_
        refine lv_aload_n hx hb dX3_write_48 rfl (lv_at hl 1 rfl) ?_
        refine lv_aload_n hx hb dX3_write_49 rfl (lv_at hl 2 rfl) ?_
        refine lv_iload hx hb dX3_write_50 (lv_at hl 5 rfl) ?_
        refine lv_iload hx hb dX3_write_52 (lv_at hl 6 rfl) ?_
        refine lv_iload hx hb dX3_write_54 (lv_at hl 4 rfl) ?_
        have fr := fr_p (X := [(sc, .inr (3, [.ref ss, .int (nI k), .ref sr])), (ss, .inl (cI, 450, .inl sc9)), (sr, .inl (cJ, 151, .inr (.inr (.inr (.inr rg))))), (hp, .inr (4, [.ref hpa, .int (nI om)])), (hpa, .inl (cI, 150, .inl op)), (ht, .inr (4, [.ref hta, .int (nI on)])), (hta, .inl (cI, 300, .inl ot))]) (cx := [(sc, .inr (3, [.ref ss, .int (nI k), .ref sr])), (ss, .inl (cI, 450, .inl sc9)), (sr, .inl (cJ, 151, .inr (.inr (.inr (.inr rg))))), (hp, .inr (4, [.ref hpa, .int (nI om)])), (hpa, .inl (cI, 150, .inl op)), (ht, .inr (4, [.ref hta, .int (nI on)])), (hta, .inl (cI, 300, .inl ot))]) (wr := []) (pl := va_pl LP (gF cI pl u_1.1)) hP hD hS hA [0, 1, 2, 3, 4, 5, 6] [] rfl rfl (by decide) (by decide) (by decide)
        refine cv_i (J := fun _ => ([(sc, .inr (3, [.ref ss, .int (nI k), .ref sr])), (ss, .inl (cI, 450, .inl sc9)), (sr, .inl (cJ, 151, .inr (.inr (.inr (.inr rg))))), (hp, .inr (4, [.ref hpa, .int (nI om)])), (hpa, .inl (cI, 150, .inl op)), (ht, .inr (4, [.ref hta, .int (nI on)])), (hta, .inl (cI, 300, .inl ot))] ++ va_pl LP (gF cI pl u_1.1))) (As := [.ref hp, .ref ht, .int (nI i), .int (nI j), .int (nI en)]) (rest := []) (q0 := 0) (ci := 3) ⟨hx, hb, hml, hown, hts⟩ (c_X3_nextStep l D cI cJ cL H.size sc ss sr k sc9 rg hp hpa ht hta om on op ot LP pl u_1.1 u_1.2 st en i j hGm hom hon hen hst hMm (by omega) (by omega) (by omega)) (cwV 5 hts gX3_write_X3_nextStep rfl rfl rfl (by decide +kernel) ⟨Nat.le_of_ble_eq_true rfl, Nat.le_of_ble_eq_true rfl⟩) hK fr.1 fr.2.1 fr.2.2.1 (fun H1 u hk h1 h2 => ⟨(fr.2.2.2 _ _ H1 hk h1 h2).1.part [0, 1, 2, 3, 4, 5, 6] rfl, (fr.2.2.2 _ _ H1 hk h1 h2).2.part [0, 1, 2, 3, 4, 5, 6] (by decide) rfl⟩) hS rfl rfl rfl rfl hl.1 rfl (Nat.le_of_ble_eq_true rfl) dX3_write_56 ⟨Nat.zero_le _, Nat.zero_le _⟩ (fun r_8 u_7 H locs hw hP hD hS => ?_)
        subst hw
        refine lv_istore (lv' := [(8, .int (px_st op ot om en i j)), (0, .ref sc), (1, .ref hp), (2, .ref ht), (3, .int (nI st)), (4, .int (nI en)), (5, .int (nI i)), (6, .int (nI j)), (7, .int (nI k))]) hx hb dX3_write_59 hl (by decide) rfl (fun ls hl => ?_)
        refine lv_aload_n hx hb dX3_write_61 rfl (lv_at hl 1 rfl) ?_
        refine va_get (D := D) (ci := 3) (v := .ref ss) (C := RX3) (T := TX3) (N := 3) hx hb hts i_X3 hown hK hP 0 rfl rfl 0 (by decide) w_2 (fun _ h9 => h9) rfl dX3_write_62 ?_
        refine lv_iload hx hb dX3_write_65 (lv_at hl 8 rfl) ?_
        refine lv_iload hx hb dX3_write_67 (lv_at hl 0 rfl) ?_
        refine va_iastN hx hb hK hP hD hS 1 0 rfl rfl (k := k) (x := px_st op ot om en i j) (by omega) (by decide) dX3_write_69 (fun H locs hP hD hS => ?_)
        have hP : va_P D vwCl ([(sc, .inr (3, [.ref ss, .int (nI k), .ref sr])), (ss, .inl (cI, 450, .inl (upd sc9 k (px_st op ot om en i j)))), (sr, .inl (cJ, 151, .inr (.inr (.inr (.inr rg))))), (hp, .inr (4, [.ref hpa, .int (nI om)])), (hpa, .inl (cI, 150, .inl op)), (ht, .inr (4, [.ref hta, .int (nI on)])), (hta, .inl (cI, 300, .inl ot))] ++ va_pl LP (gF cI pl u_1.1)) H := hP
        have hD : va_D A ([(sc, .inr (3, [.ref ss, .int (nI k), .ref sr])), (ss, .inl (cI, 450, .inl (upd sc9 k (px_st op ot om en i j)))), (sr, .inl (cJ, 151, .inr (.inr (.inr (.inr rg))))), (hp, .inr (4, [.ref hpa, .int (nI om)])), (hpa, .inl (cI, 150, .inl op)), (ht, .inr (4, [.ref hta, .int (nI on)])), (hta, .inl (cI, 300, .inl ot))] ++ va_pl LP (gF cI pl u_1.1)) := hD
        refine lv_aload_n hx hb dX3_write_70 rfl (lv_at hl 1 rfl) ?_
        refine lv_dup hx hb dX3_write_71 rfl ?_
        refine va_get (D := D) (ci := 3) (v := .int (nI k)) (C := RX3) (T := TX3) (N := 3) hx hb hts i_X3 hown hK hP 0 rfl rfl 1 (by decide) w_0 (fun _ h9 => h9) rfl dX3_write_72 ?_
        refine lv_iconst (v := 1) hx hb dX3_write_75 (by decide) ?_
        refine lv_iadd hx hb dX3_write_76 ?_
        refine lv_cv (y := nI (k + 1)) (nI_add k 1) ?_
        refine va_put (D := D) (ci := 3) (v := .int (nI (k + 1))) (ty := .int) (C := RX3) (T := TX3) (N := 3) hx hb hts i_X3 tyX3 tyX3_ok nmX3 hown hK hP hD hS 0 rfl rfl 1 (by decide) w_0 (fun _ h9 => h9) rfl (by decide +kernel) rfl rfl (Nat.le_of_ble_eq_true rfl) dX3_write_77 (fun H locs hP hD hS => ?_)
        have hP : va_P D vwCl ([(sc, .inr (3, [.ref ss, .int (nI (k + 1)), .ref sr])), (ss, .inl (cI, 450, .inl (upd sc9 k (px_st op ot om en i j)))), (sr, .inl (cJ, 151, .inr (.inr (.inr (.inr rg))))), (hp, .inr (4, [.ref hpa, .int (nI om)])), (hpa, .inl (cI, 150, .inl op)), (ht, .inr (4, [.ref hta, .int (nI on)])), (hta, .inl (cI, 300, .inl ot))] ++ va_pl LP (gF cI pl u_1.1)) H := hP
        have hD : va_D A ([(sc, .inr (3, [.ref ss, .int (nI (k + 1)), .ref sr])), (ss, .inl (cI, 450, .inl (upd sc9 k (px_st op ot om en i j)))), (sr, .inl (cJ, 151, .inr (.inr (.inr (.inr rg))))), (hp, .inr (4, [.ref hpa, .int (nI om)])), (hpa, .inl (cI, 150, .inl op)), (ht, .inr (4, [.ref hta, .int (nI on)])), (hta, .inl (cI, 300, .inl ot))] ++ va_pl LP (gF cI pl u_1.1)) := hD
        refine lv_iload hx hb dX3_write_80 (lv_at hl 6 rfl) ?_
        refine lv_iload hx hb dX3_write_82 (lv_at hl 0 rfl) ?_
        refine lv_iconst (v := 3) hx hb dX3_write_84 (by decide) ?_
        refine lv_icmp_ne (tgt := 92) hx hb dX3_write_85 (by decide) (fun c_85 => ?_) (fun c_85 => ?_)
        · refine lv_iconst (v := 1) hx hb dX3_write_92 (by decide) ?_
          refine lv_iadd hx hb dX3_write_93 ?_
          refine lv_cv (y := nI (i + 1)) (nI_1 i) ?_
          refine lv_istore (lv' := [(5, .int (nI (i + 1))), (8, .int (px_st op ot om en i j)), (0, .ref sc), (1, .ref hp), (2, .ref ht), (3, .int (nI st)), (4, .int (nI en)), (6, .int (nI j)), (7, .int (nI k))]) hx hb dX3_write_94 hl (by decide) rfl (fun ls hl => ?_)
          refine lv_iload hx hb dX3_write_96 (lv_at hl 7 rfl) ?_
          refine lv_iload hx hb dX3_write_98 (lv_at hl 1 rfl) ?_
          refine lv_iconst (v := 2) hx hb dX3_write_100 (by decide) ?_
          refine lv_icmp_ne (tgt := 108) hx hb dX3_write_101 (by decide) (fun c_101 => ?_) (fun c_101 => ?_)
          · refine lv_iconst (v := 1) hx hb dX3_write_108 (by decide) ?_
            refine lv_iadd hx hb dX3_write_109 ?_
            refine lv_cv (y := nI (j + 1)) (nI_1 j) ?_
            refine lv_istore (lv' := [(6, .int (nI (j + 1))), (5, .int (nI (i + 1))), (8, .int (px_st op ot om en i j)), (0, .ref sc), (1, .ref hp), (2, .ref ht), (3, .int (nI st)), (4, .int (nI en)), (7, .int (nI k))]) hx hb dX3_write_110 hl (by decide) rfl (fun ls hl => ?_)
            refine lv_iinc (v := nI (k + 1)) (lv' := [(7, .int (nI (k + 1))), (6, .int (nI (j + 1))), (5, .int (nI (i + 1))), (8, .int (px_st op ot om en i j)), (0, .ref sc), (1, .ref hp), (2, .ref ht), (3, .int (nI st)), (4, .int (nI en))]) hx hb dX3_write_112 hl (k := 8) rfl (nI_add k 1) (by decide) rfl (fun ls hl => ?_)
            refine lv_goto (tgt := 23) hx hb dX3_write_115 (by decide) ?_
            have ht9 : (px_tr op ot om st en (k + 1)) = (i + 1, j + 1) := by rw [px_tr_g htr, if_neg c_85, if_neg c_101]
            exact ih_23 (450 - (k + 1)) _ _ _ (by omega) ⟨k + 1, i + 1, j + 1, upd sc9 k (px_st op ot om en i j), ht9, px_un_s htr hun (by omega), px_sc_s htr hsc rfl, rfl, hP, hD, hS, lv_sub hl [4, 5, 6, 7, 8, 2, 1, 0] rfl⟩
          · refine lv_iconst (v := 0) hx hb dX3_write_104 (by decide) ?_
            refine lv_goto (tgt := 109) hx hb dX3_write_105 (by decide) ?_
            refine lv_iadd hx hb dX3_write_109 ?_
            refine lv_cv (y := nI j) (Int32.add_zero _) ?_
            refine lv_istore (lv' := [(6, .int (nI j)), (5, .int (nI (i + 1))), (8, .int (px_st op ot om en i j)), (0, .ref sc), (1, .ref hp), (2, .ref ht), (3, .int (nI st)), (4, .int (nI en)), (7, .int (nI k))]) hx hb dX3_write_110 hl (by decide) rfl (fun ls hl => ?_)
            refine lv_iinc (v := nI (k + 1)) (lv' := [(7, .int (nI (k + 1))), (6, .int (nI j)), (5, .int (nI (i + 1))), (8, .int (px_st op ot om en i j)), (0, .ref sc), (1, .ref hp), (2, .ref ht), (3, .int (nI st)), (4, .int (nI en))]) hx hb dX3_write_112 hl (k := 8) rfl (nI_add k 1) (by decide) rfl (fun ls hl => ?_)
            refine lv_goto (tgt := 23) hx hb dX3_write_115 (by decide) ?_
            have ht9 : (px_tr op ot om st en (k + 1)) = (i + 1, j) := by rw [px_tr_g htr, if_neg c_85, if_pos c_101]
            exact ih_23 (450 - (k + 1)) _ _ _ (by omega) ⟨k + 1, i + 1, j, upd sc9 k (px_st op ot om en i j), ht9, px_un_s htr hun (by omega), px_sc_s htr hsc rfl, rfl, hP, hD, hS, lv_sub hl [4, 5, 6, 7, 8, 2, 1, 0] rfl⟩
        · refine lv_iconst (v := 0) hx hb dX3_write_88 (by decide) ?_
          refine lv_goto (tgt := 93) hx hb dX3_write_89 (by decide) ?_
          refine lv_iadd hx hb dX3_write_93 ?_
          refine lv_cv (y := nI i) (Int32.add_zero _) ?_
          refine lv_istore (lv' := [(5, .int (nI i)), (8, .int (px_st op ot om en i j)), (0, .ref sc), (1, .ref hp), (2, .ref ht), (3, .int (nI st)), (4, .int (nI en)), (6, .int (nI j)), (7, .int (nI k))]) hx hb dX3_write_94 hl (by decide) rfl (fun ls hl => ?_)
          refine lv_iload hx hb dX3_write_96 (lv_at hl 7 rfl) ?_
          refine lv_iload hx hb dX3_write_98 (lv_at hl 1 rfl) ?_
          refine lv_iconst (v := 2) hx hb dX3_write_100 (by decide) ?_
          refine lv_icmp_ne (tgt := 108) hx hb dX3_write_101 (by decide) (fun c_101 => ?_) (fun c_101 => ?_)
          · refine lv_iconst (v := 1) hx hb dX3_write_108 (by decide) ?_
            refine lv_iadd hx hb dX3_write_109 ?_
            refine lv_cv (y := nI (j + 1)) (nI_1 j) ?_
            refine lv_istore (lv' := [(6, .int (nI (j + 1))), (5, .int (nI i)), (8, .int (px_st op ot om en i j)), (0, .ref sc), (1, .ref hp), (2, .ref ht), (3, .int (nI st)), (4, .int (nI en)), (7, .int (nI k))]) hx hb dX3_write_110 hl (by decide) rfl (fun ls hl => ?_)
            refine lv_iinc (v := nI (k + 1)) (lv' := [(7, .int (nI (k + 1))), (6, .int (nI (j + 1))), (5, .int (nI i)), (8, .int (px_st op ot om en i j)), (0, .ref sc), (1, .ref hp), (2, .ref ht), (3, .int (nI st)), (4, .int (nI en))]) hx hb dX3_write_112 hl (k := 8) rfl (nI_add k 1) (by decide) rfl (fun ls hl => ?_)
            refine lv_goto (tgt := 23) hx hb dX3_write_115 (by decide) ?_
            have ht9 : (px_tr op ot om st en (k + 1)) = (i, j + 1) := by rw [px_tr_g htr, if_pos c_85, if_neg c_101]
            exact ih_23 (450 - (k + 1)) _ _ _ (by omega) ⟨k + 1, i, j + 1, upd sc9 k (px_st op ot om en i j), ht9, px_un_s htr hun (by omega), px_sc_s htr hsc rfl, rfl, hP, hD, hS, lv_sub hl [4, 5, 6, 7, 8, 2, 1, 0] rfl⟩
          · exact absurd (c_85.symm.trans c_101) (by decide)
