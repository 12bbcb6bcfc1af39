set_option maxHeartbeats 4000000 in
set_option maxRecDepth 100000 in
theorem c_X5_feed_no (l : Launch) (htr : l.stackTraces = false) (D : va_G) (cI cJ cL : ClassId) (sz : Nat) (x : Nat) (xp : Nat) (xt : Nat) (so : Nat) (g : Nat) (sc : Nat) (fo : Nat) (sof : Int32) (rw : Int32) (wa : Int32) (wb : Int32) (wc : Int32) (wd : Int32) (h0 : ¬ rw = 0) (h1 : ¬ rw = 1) :
    vx_Met l yX5_feed wsX5_feedB { frames := 6, cells := 1, slots := 6, locals := 90 } (va_Pc [.ref x, .int rw, .int wa, .int wb, .int wc, .int wd] (Wx D [(cI, .int), (cJ, .array .int), (cL, .long)] [(x, .inr (5, [.ref xp, .ref xt, .ref so, .ref g, .ref sc, .ref fo, .int sof]))] sz))
      (fun _ _ _ _ => False) (vx_X (fun (_ : Unit) => True) (fun E _ t => E = nse ∧ Wa D [(cI, .int), (cJ, .array .int), (cL, .long)] (va_A [(x, .inr (5, [.ref xp, .ref xt, .ref so, .ref g, .ref sc, .ref fo, .int sof]))] sz) [(x, .inr (5, [.ref xp, .ref xt, .ref so, .ref g, .ref sc, .ref fo, .int sof]))] t) (va_A [(x, .inr (5, [.ref xp, .ref xt, .ref so, .ref g, .ref sc, .ref fo, .int sof]))] sz)) 1 6 (va_A [(x, .inr (5, [.ref xp, .ref xt, .ref so, .ref g, .ref sc, .ref fo, .int sof]))] sz) := by
  refine vx_ofW (cc := cX5_feed) (maxL := 7) (ret := (some .int)) (by decide) rfl ?_
  intro p e s m args below meth c s₁ B hml ht hv
  obtain ⟨rfl, ⟨hsz, hP, hK, hD0⟩, hE⟩ := hv
  have hx := B.exec
  have hb := B.bytes
  have hr := B.returns
  have hts := atoms_spec (ws := wsX5_feedB) B.pre
  have hown : s.vm.findClass RX5 = some m.cls := findClass_of_methodNamed B.named
  have hlocks := B.notSynchronized
  subst hsz
  have hD := hD0.self (sz := s.heap.size)
  generalize hAe : va_A [(x, .inr (5, [.ref xp, .ref xt, .ref so, .ref g, .ref sc, .ref fo, .int sof]))] s.heap.size = A at hD hE ⊢
  have hA : ∀ q : Nat, s.heap.size ≤ q → A q := fun q h => by rw [← hAe]; exact Or.inr h
  have hl := lv_entry ([.ref x, .int rw, .int wa, .int wb, .int wc, .int wd]) (n := 7) (Nat.le_of_ble_eq_true rfl)
  rw [lg_entry_eq]
  generalize (lg_sl ([.ref x, .int rw, .int wa, .int wb, .int wc, .int wd]) ++ List.replicate (7 - (lg_sl ([.ref x, .int rw, .int wa, .int wb, .int wc, .int wd])).length) Slot.unset).toArray = ls at hl ⊢
  have hl : lv_has ls 7 [(0, .ref x), (1, .int rw), (2, .int wa), (3, .int wb), (4, .int wc), (5, .int wd)] := hl
  refine hv_start (A := A) (ws := [(x, .inr (5, [.ref xp, .ref xt, .ref so, .ref g, .ref sc, .ref fo, .int sof]))]) hP (fun H locs hP hS => ?_)
  have w_0 := hts (.classLink RX5 53 nse) (by decide +kernel)
  have w_1 := hts (.initialized nse) (by decide +kernel)
  refine lv_iload_n hx hb dX5_feed_0 rfl (lv_at hl 1 rfl) ?_
  refine lv_if_eq (tgt := 19) hx hb dX5_feed_1 (by decide) (fun c_1 => ?_) (fun c_1 => ?_)
  · exfalso; grind
  · refine lv_iload_n hx hb dX5_feed_4 rfl (lv_at hl 1 rfl) ?_
    refine lv_iconst (v := 1) hx hb dX5_feed_5 (by decide) ?_
    refine lv_icmp_eq (tgt := 19) hx hb dX5_feed_6 (by decide) (fun c_6 => ?_) (fun c_6 => ?_)
    · exfalso; grind
    · exact thrX () rx_0 rx_1 rx_2 rx_5 hx hb htr hown (by decide +kernel) (by decide +kernel) w_0 w_1 (hE.2.2.1 (55, "there is no such row") (by decide +kernel)) (vx_hat (fun w h => hts w (List.mem_cons_of_mem _ (List.mem_append_left _ (List.mem_append_right _ h)))) xb_nse (xK.at hE.2.2.2.2.2)) xg_nse hE hS (by rw [hml]; exact hl.1) dX5_feed_9 dX5_feed_12 dX5_feed_13 dX5_feed_15 dX5_feed_18 ht (Nat.le_of_ble_eq_true rfl) (Nat.le_of_ble_eq_true rfl) (Nat.le_of_ble_eq_true rfl) (Nat.le_of_ble_eq_true rfl) hlocks hK hP hD trivial (Nat.le_of_ble_eq_true rfl) (Nat.le_of_ble_eq_true rfl)

set_option maxHeartbeats 4000000 in
set_option maxRecDepth 100000 in
theorem c_X5_feed_f0 (l : Launch) (htr : l.stackTraces = false) (D : va_G) (cI cJ cL : ClassId) (sz : Nat) (x : Nat) (xp : Nat) (xt : Nat) (so : Nat) (g : Nat) (sc : Nat) (fo : Nat) (sof : Int32) (xpa : Nat) (mm : Nat) (pp : Nat → Int32) (rw : Int32) (wa : Int32) (wb : Int32) (wc : Int32) (wd : Int32) (h0 : rw = 0) (hb9 : mm ≤ 150) (hf : 150 < mm + px_fn wa wb wc wd) :
    vx_Met l yX5_feed wsX5_feedB { frames := 6, cells := 1, slots := 6, locals := 90 } (va_Pc [.ref x, .int rw, .int wa, .int wb, .int wc, .int wd] (Wx D [(cI, .int), (cJ, .array .int), (cL, .long)] [(x, .inr (5, [.ref xp, .ref xt, .ref so, .ref g, .ref sc, .ref fo, .int sof])), (xp, .inr (4, [.ref xpa, .int (nI mm)])), (xpa, .inl (cI, 150, .inl pp))] sz))
      (fun _ _ _ _ => False) (vx_X (fun (_ : Unit) => True) (fun E _ t => E = ise ∧ Wa D [(cI, .int), (cJ, .array .int), (cL, .long)] (va_A [(x, .inr (5, [.ref xp, .ref xt, .ref so, .ref g, .ref sc, .ref fo, .int sof])), (xp, .inr (4, [.ref xpa, .int (nI mm)])), (xpa, .inl (cI, 150, .inl pp))] sz) [(x, .inr (5, [.ref xp, .ref xt, .ref so, .ref g, .ref sc, .ref fo, .int sof])), (xp, .inr (4, [.ref xpa, .int (nI mm)])), (xpa, .inl (cI, 150, .inl pp))] t) (va_A [(x, .inr (5, [.ref xp, .ref xt, .ref so, .ref g, .ref sc, .ref fo, .int sof])), (xp, .inr (4, [.ref xpa, .int (nI mm)])), (xpa, .inl (cI, 150, .inl pp))] sz)) 1 6 (va_A [(x, .inr (5, [.ref xp, .ref xt, .ref so, .ref g, .ref sc, .ref fo, .int sof])), (xp, .inr (4, [.ref xpa, .int (nI mm)])), (xpa, .inl (cI, 150, .inl pp))] sz) := by
  refine vx_ofW (cc := cX5_feed) (maxL := 7) (ret := (some .int)) (by decide) rfl ?_
  intro p e s m args below meth c s₁ B hml ht hv
  obtain ⟨rfl, ⟨hsz, hP, hK, hD0⟩, hE⟩ := hv
  have hx := B.exec
  have hb := B.bytes
  have hr := B.returns
  have hts := atoms_spec (ws := wsX5_feedB) B.pre
  have hown : s.vm.findClass RX5 = some m.cls := findClass_of_methodNamed B.named
  have hlocks := B.notSynchronized
  subst hsz
  have hD := hD0.self (sz := s.heap.size)
  generalize hAe : va_A [(x, .inr (5, [.ref xp, .ref xt, .ref so, .ref g, .ref sc, .ref fo, .int sof])), (xp, .inr (4, [.ref xpa, .int (nI mm)])), (xpa, .inl (cI, 150, .inl pp))] s.heap.size = A at hD hE ⊢
  have hA : ∀ q : Nat, s.heap.size ≤ q → A q := fun q h => by rw [← hAe]; exact Or.inr h
  have hl := lv_entry ([.ref x, .int rw, .int wa, .int wb, .int wc, .int wd]) (n := 7) (Nat.le_of_ble_eq_true rfl)
  rw [lg_entry_eq]
  generalize (lg_sl ([.ref x, .int rw, .int wa, .int wb, .int wc, .int wd]) ++ List.replicate (7 - (lg_sl ([.ref x, .int rw, .int wa, .int wb, .int wc, .int wd])).length) Slot.unset).toArray = ls at hl ⊢
  have hl : lv_has ls 7 [(0, .ref x), (1, .int rw), (2, .int wa), (3, .int wb), (4, .int wc), (5, .int wd)] := hl
  refine hv_start (A := A) (ws := [(x, .inr (5, [.ref xp, .ref xt, .ref so, .ref g, .ref sc, .ref fo, .int sof])), (xp, .inr (4, [.ref xpa, .int (nI mm)])), (xpa, .inl (cI, 150, .inl pp))]) hP (fun H locs hP hS => ?_)
  have w_0 := hts (.fieldLink RX5 14 "TextAligner" "pattern" "LTextAligner$SignRow;") (by decide +kernel)
  have i_X5 : ∀ w ∈ wsX50, w ∈ wsX5_feedB := by decide +kernel
  have w_2 := hts (.classLink RX5 68 ise) (by decide +kernel)
  have w_3 := hts (.initialized ise) (by decide +kernel)
  have fn9 : px_fn wa wb wc wd = px_nz wa 4 + px_nz wb 4 + px_nz wc 4 + px_nz wd 4 := rfl
  have z0 := px_nz_le wa 4
  have z1 := px_nz_le wb 4
  have z2 := px_nz_le wc 4
  have z3 := px_nz_le wd 4
  refine lv_iload_n hx hb dX5_feed_0 rfl (lv_at hl 1 rfl) ?_
  refine lv_if_eq (tgt := 19) hx hb dX5_feed_1 (by decide) (fun c_1 => ?_) (fun c_1 => ?_)
  · refine lv_iload_n hx hb dX5_feed_19 rfl (lv_at hl 1 rfl) ?_
    refine lv_if_ne (tgt := 30) hx hb dX5_feed_20 (by decide) (fun c_20 => ?_) (fun c_20 => ?_)
    · exfalso; grind
    · refine lv_aload_n hx hb dX5_feed_23 rfl (lv_at hl 0 rfl) ?_
      refine va_get (D := D) (ci := 5) (v := .ref xp) (C := RX5) (T := TX5) (N := 7) hx hb hts i_X5 hown hK hP 0 rfl rfl 0 (by decide) w_0 (fun _ h9 => h9) rfl dX5_feed_24 ?_
      refine lv_goto (tgt := 34) hx hb dX5_feed_27 (by decide) ?_
      refine lv_astore (lv' := [(6, .ref xp), (0, .ref x), (1, .int rw), (2, .int wa), (3, .int wb), (4, .int wc), (5, .int wd)]) hx hb dX5_feed_34 hl (by decide) rfl (fun ls hl => ?_)
      refine lv_iload_n hx hb dX5_feed_36 rfl (lv_at hl 3 rfl) ?_
      have fr := fr_x (wc := []) (wr := [(x, .inr (5, [.ref xp, .ref xt, .ref so, .ref g, .ref sc, .ref fo, .int sof])), (xp, .inr (4, [.ref xpa, .int (nI mm)])), (xpa, .inl (cI, 150, .inl pp))]) hP hD hS hA [] [0, 1, 2] rfl rfl (by decide) (by decide) (by decide)
      refine cs_i (J := fun _ => [(x, .inr (5, [.ref xp, .ref xt, .ref so, .ref g, .ref sc, .ref fo, .int sof])), (xp, .inr (4, [.ref xpa, .int (nI mm)])), (xpa, .inl (cI, 150, .inl pp))]) (As := [.int wa]) (rest := []) ⟨hx, hb, hml, hown, hts⟩ (c_X5_signsIn l D cI cJ cL H.size wa ) (va_cwS 1 hts gX5_feedB_X5_signsIn rfl rfl rfl (by decide +kernel) ⟨Nat.le_of_ble_eq_true rfl, Nat.le_of_ble_eq_true rfl⟩) hK fr.1 fr.2.1 fr.2.2.1 (fun H1 u hk h1 h2 => ⟨(fr.2.2.2 _ H1 hk h1 h2).1.sub [0, 1, 2] rfl, (fr.2.2.2 _ H1 hk h1 h2).2.sub [0, 1, 2] (by decide) rfl⟩) hS rfl hl.1 rfl (Nat.le_of_ble_eq_true rfl) dX5_feed_37 ⟨Nat.le_of_ble_eq_true rfl, Nat.le_of_ble_eq_true rfl⟩ (fun r_2 u_1 H locs hw hP hD hS => ?_)
      subst hw
      refine lv_iload_n hx hb dX5_feed_40 rfl (lv_at hl 4 rfl) ?_
      have fr := fr_x (wc := []) (wr := [(x, .inr (5, [.ref xp, .ref xt, .ref so, .ref g, .ref sc, .ref fo, .int sof])), (xp, .inr (4, [.ref xpa, .int (nI mm)])), (xpa, .inl (cI, 150, .inl pp))]) hP hD hS hA [] [0, 1, 2] rfl rfl (by decide) (by decide) (by decide)
      refine cs_i (J := fun _ => [(x, .inr (5, [.ref xp, .ref xt, .ref so, .ref g, .ref sc, .ref fo, .int sof])), (xp, .inr (4, [.ref xpa, .int (nI mm)])), (xpa, .inl (cI, 150, .inl pp))]) (As := [.int wb]) (rest := [.int (nI (px_nz wa 4))]) ⟨hx, hb, hml, hown, hts⟩ (c_X5_signsIn l D cI cJ cL H.size wb ) (va_cwS 1 hts gX5_feedB_X5_signsIn rfl rfl rfl (by decide +kernel) ⟨Nat.le_of_ble_eq_true rfl, Nat.le_of_ble_eq_true rfl⟩) hK fr.1 fr.2.1 fr.2.2.1 (fun H1 u hk h1 h2 => ⟨(fr.2.2.2 _ H1 hk h1 h2).1.sub [0, 1, 2] rfl, (fr.2.2.2 _ H1 hk h1 h2).2.sub [0, 1, 2] (by decide) rfl⟩) hS rfl hl.1 rfl (Nat.le_of_ble_eq_true rfl) dX5_feed_41 ⟨Nat.le_of_ble_eq_true rfl, Nat.le_of_ble_eq_true rfl⟩ (fun r_4 u_3 H locs hw hP hD hS => ?_)
      subst hw
      refine lv_iadd hx hb dX5_feed_44 ?_
      refine lv_cv (y := nI (px_nz wa 4 + (px_nz wb 4))) (nI_add (px_nz wa 4) (px_nz wb 4)) ?_
      refine lv_iload hx hb dX5_feed_45 (lv_at hl 5 rfl) ?_
      have fr := fr_x (wc := []) (wr := [(x, .inr (5, [.ref xp, .ref xt, .ref so, .ref g, .ref sc, .ref fo, .int sof])), (xp, .inr (4, [.ref xpa, .int (nI mm)])), (xpa, .inl (cI, 150, .inl pp))]) hP hD hS hA [] [0, 1, 2] rfl rfl (by decide) (by decide) (by decide)
      refine cs_i (J := fun _ => [(x, .inr (5, [.ref xp, .ref xt, .ref so, .ref g, .ref sc, .ref fo, .int sof])), (xp, .inr (4, [.ref xpa, .int (nI mm)])), (xpa, .inl (cI, 150, .inl pp))]) (As := [.int wc]) (rest := [.int (nI (px_nz wa 4 + (px_nz wb 4)))]) ⟨hx, hb, hml, hown, hts⟩ (c_X5_signsIn l D cI cJ cL H.size wc ) (va_cwS 1 hts gX5_feedB_X5_signsIn rfl rfl rfl (by decide +kernel) ⟨Nat.le_of_ble_eq_true rfl, Nat.le_of_ble_eq_true rfl⟩) hK fr.1 fr.2.1 fr.2.2.1 (fun H1 u hk h1 h2 => ⟨(fr.2.2.2 _ H1 hk h1 h2).1.sub [0, 1, 2] rfl, (fr.2.2.2 _ H1 hk h1 h2).2.sub [0, 1, 2] (by decide) rfl⟩) hS rfl hl.1 rfl (Nat.le_of_ble_eq_true rfl) dX5_feed_47 ⟨Nat.le_of_ble_eq_true rfl, Nat.le_of_ble_eq_true rfl⟩ (fun r_6 u_5 H locs hw hP hD hS => ?_)
      subst hw
      refine lv_iadd hx hb dX5_feed_50 ?_
      refine lv_cv (y := nI (px_nz wa 4 + (px_nz wb 4) + (px_nz wc 4))) (nI_add (px_nz wa 4 + (px_nz wb 4)) (px_nz wc 4)) ?_
      refine lv_iload hx hb dX5_feed_51 (lv_at hl 6 rfl) ?_
      have fr := fr_x (wc := []) (wr := [(x, .inr (5, [.ref xp, .ref xt, .ref so, .ref g, .ref sc, .ref fo, .int sof])), (xp, .inr (4, [.ref xpa, .int (nI mm)])), (xpa, .inl (cI, 150, .inl pp))]) hP hD hS hA [] [0, 1, 2] rfl rfl (by decide) (by decide) (by decide)
      refine cs_i (J := fun _ => [(x, .inr (5, [.ref xp, .ref xt, .ref so, .ref g, .ref sc, .ref fo, .int sof])), (xp, .inr (4, [.ref xpa, .int (nI mm)])), (xpa, .inl (cI, 150, .inl pp))]) (As := [.int wd]) (rest := [.int (nI (px_nz wa 4 + (px_nz wb 4) + (px_nz wc 4)))]) ⟨hx, hb, hml, hown, hts⟩ (c_X5_signsIn l D cI cJ cL H.size wd ) (va_cwS 1 hts gX5_feedB_X5_signsIn rfl rfl rfl (by decide +kernel) ⟨Nat.le_of_ble_eq_true rfl, Nat.le_of_ble_eq_true rfl⟩) hK fr.1 fr.2.1 fr.2.2.1 (fun H1 u hk h1 h2 => ⟨(fr.2.2.2 _ H1 hk h1 h2).1.sub [0, 1, 2] rfl, (fr.2.2.2 _ H1 hk h1 h2).2.sub [0, 1, 2] (by decide) rfl⟩) hS rfl hl.1 rfl (Nat.le_of_ble_eq_true rfl) dX5_feed_53 ⟨Nat.le_of_ble_eq_true rfl, Nat.le_of_ble_eq_true rfl⟩ (fun r_8 u_7 H locs hw hP hD hS => ?_)
      subst hw
      refine lv_iadd hx hb dX5_feed_56 ?_
      refine lv_cv (y := nI (px_nz wa 4 + (px_nz wb 4) + (px_nz wc 4) + (px_nz wd 4))) (nI_add (px_nz wa 4 + (px_nz wb 4) + (px_nz wc 4)) (px_nz wd 4)) ?_
      refine lv_aload hx hb dX5_feed_57 (lv_at hl 0 rfl) ?_
      have fr := fr_x (wc := [(xp, .inr (4, [.ref xpa, .int (nI mm)])), (xpa, .inl (cI, 150, .inl pp))]) (wr := [(x, .inr (5, [.ref xp, .ref xt, .ref so, .ref g, .ref sc, .ref fo, .int sof]))]) hP hD hS hA [1, 2] [0] rfl rfl (by decide) (by decide) (by decide)
      refine cv_i (J := fun _ => [(x, .inr (5, [.ref xp, .ref xt, .ref so, .ref g, .ref sc, .ref fo, .int sof])), (xp, .inr (4, [.ref xpa, .int (nI mm)])), (xpa, .inl (cI, 150, .inl pp))]) (As := []) (rest := [.int (nI (px_nz wa 4 + (px_nz wb 4) + (px_nz wc 4) + (px_nz wd 4)))]) (q0 := 0) (ci := 4) ⟨hx, hb, hml, hown, hts⟩ (c_X4_room l D cI cJ cL H.size xp xpa 150 mm pp (by omega)) (cwV 0 hts gX5_feedB_X4_room rfl rfl rfl (by decide +kernel) ⟨Nat.le_of_ble_eq_true rfl, Nat.le_of_ble_eq_true rfl⟩) hK fr.1 fr.2.1 fr.2.2.1 (fun H1 u hk h1 h2 => ⟨(fr.2.2.2 _ H1 hk h1 h2).1.sub [0, 1, 2] rfl, (fr.2.2.2 _ H1 hk h1 h2).2.sub [0, 1, 2] (by decide) rfl⟩) hS rfl rfl rfl rfl hl.1 rfl (Nat.le_of_ble_eq_true rfl) dX5_feed_59 ⟨Nat.le_of_ble_eq_true rfl, Nat.le_of_ble_eq_true rfl⟩ (fun r_10 u_9 H locs hw hP hD hS => ?_)
      subst hw
      refine lv_icmp_le (tgt := 75) hx hb dX5_feed_62 (by decide) (fun c_62 => ?_) (fun c_62 => ?_)
      · have k_62 : px_nz wa 4 + (px_nz wb 4) + (px_nz wc 4) + (px_nz wd 4) ≤ 150 - mm := (nI_leI (a := px_nz wa 4 + (px_nz wb 4) + (px_nz wc 4) + (px_nz wd 4)) (b := 150 - mm) (by omega) (by omega)).mp c_62
        exfalso; grind
      · have k_62 : ¬ (px_nz wa 4 + (px_nz wb 4) + (px_nz wc 4) + (px_nz wd 4) ≤ 150 - mm) := fun q => c_62 ((nI_leI (a := px_nz wa 4 + (px_nz wb 4) + (px_nz wc 4) + (px_nz wd 4)) (b := 150 - mm) (by omega) (by omega)).mpr q)
        exact thr () hx hb htr hown (by decide +kernel) (by decide +kernel) w_2 w_3 (hE.2.2.1 (70, "there would be too many signs") (by decide +kernel)) (vx_hat (fun w h => hts w (List.mem_cons_of_mem _ (List.mem_append_right _ h))) xb_ise (xK.at hE.2.2.2.2.2)) xg_ise hE hS (by rw [hml]; exact hl.1) dX5_feed_65 dX5_feed_68 dX5_feed_69 dX5_feed_71 dX5_feed_74 ht (Nat.le_of_ble_eq_true rfl) (Nat.le_of_ble_eq_true rfl) (Nat.le_of_ble_eq_true rfl) (Nat.le_of_ble_eq_true rfl) hlocks hK hP hD trivial (Nat.le_of_ble_eq_true rfl) (Nat.le_of_ble_eq_true rfl)
  · exfalso; grind

set_option maxHeartbeats 4000000 in
set_option maxRecDepth 100000 in
theorem c_X5_feed_f1 (l : Launch) (htr : l.stackTraces = false) (D : va_G) (cI cJ cL : ClassId) (sz : Nat) (x : Nat) (xp : Nat) (xt : Nat) (so : Nat) (g : Nat) (sc : Nat) (fo : Nat) (sof : Int32) (xta : Nat) (nn : Nat) (tt : Nat → Int32) (rw : Int32) (wa : Int32) (wb : Int32) (wc : Int32) (wd : Int32) (h0 : rw = 1) (hb9 : nn ≤ 300) (hf : 300 < nn + px_fn wa wb wc wd) :
    vx_Met l yX5_feed wsX5_feedB { frames := 6, cells := 1, slots := 6, locals := 90 } (va_Pc [.ref x, .int rw, .int wa, .int wb, .int wc, .int wd] (Wx D [(cI, .int), (cJ, .array .int), (cL, .long)] [(x, .inr (5, [.ref xp, .ref xt, .ref so, .ref g, .ref sc, .ref fo, .int sof])), (xt, .inr (4, [.ref xta, .int (nI nn)])), (xta, .inl (cI, 300, .inl tt))] sz))
      (fun _ _ _ _ => False) (vx_X (fun (_ : Unit) => True) (fun E _ t => E = ise ∧ Wa D [(cI, .int), (cJ, .array .int), (cL, .long)] (va_A [(x, .inr (5, [.ref xp, .ref xt, .ref so, .ref g, .ref sc, .ref fo, .int sof])), (xt, .inr (4, [.ref xta, .int (nI nn)])), (xta, .inl (cI, 300, .inl tt))] sz) [(x, .inr (5, [.ref xp, .ref xt, .ref so, .ref g, .ref sc, .ref fo, .int sof])), (xt, .inr (4, [.ref xta, .int (nI nn)])), (xta, .inl (cI, 300, .inl tt))] t) (va_A [(x, .inr (5, [.ref xp, .ref xt, .ref so, .ref g, .ref sc, .ref fo, .int sof])), (xt, .inr (4, [.ref xta, .int (nI nn)])), (xta, .inl (cI, 300, .inl tt))] sz)) 1 6 (va_A [(x, .inr (5, [.ref xp, .ref xt, .ref so, .ref g, .ref sc, .ref fo, .int sof])), (xt, .inr (4, [.ref xta, .int (nI nn)])), (xta, .inl (cI, 300, .inl tt))] sz) := by
  refine vx_ofW (cc := cX5_feed) (maxL := 7) (ret := (some .int)) (by decide) rfl ?_
  intro p e s m args below meth c s₁ B hml ht hv
  obtain ⟨rfl, ⟨hsz, hP, hK, hD0⟩, hE⟩ := hv
  have hx := B.exec
  have hb := B.bytes
  have hr := B.returns
  have hts := atoms_spec (ws := wsX5_feedB) B.pre
  have hown : s.vm.findClass RX5 = some m.cls := findClass_of_methodNamed B.named
  have hlocks := B.notSynchronized
  subst hsz
  have hD := hD0.self (sz := s.heap.size)
  generalize hAe : va_A [(x, .inr (5, [.ref xp, .ref xt, .ref so, .ref g, .ref sc, .ref fo, .int sof])), (xt, .inr (4, [.ref xta, .int (nI nn)])), (xta, .inl (cI, 300, .inl tt))] s.heap.size = A at hD hE ⊢
  have hA : ∀ q : Nat, s.heap.size ≤ q → A q := fun q h => by rw [← hAe]; exact Or.inr h
  have hl := lv_entry ([.ref x, .int rw, .int wa, .int wb, .int wc, .int wd]) (n := 7) (Nat.le_of_ble_eq_true rfl)
  rw [lg_entry_eq]
  generalize (lg_sl ([.ref x, .int rw, .int wa, .int wb, .int wc, .int wd]) ++ List.replicate (7 - (lg_sl ([.ref x, .int rw, .int wa, .int wb, .int wc, .int wd])).length) Slot.unset).toArray = ls at hl ⊢
  have hl : lv_has ls 7 [(0, .ref x), (1, .int rw), (2, .int wa), (3, .int wb), (4, .int wc), (5, .int wd)] := hl
  refine hv_start (A := A) (ws := [(x, .inr (5, [.ref xp, .ref xt, .ref so, .ref g, .ref sc, .ref fo, .int sof])), (xt, .inr (4, [.ref xta, .int (nI nn)])), (xta, .inl (cI, 300, .inl tt))]) hP (fun H locs hP hS => ?_)
  have w_0 := hts (.fieldLink RX5 18 "TextAligner" "text" "LTextAligner$SignRow;") (by decide +kernel)
  have i_X5 : ∀ w ∈ wsX50, w ∈ wsX5_feedB := by decide +kernel
  have w_2 := hts (.classLink RX5 68 ise) (by decide +kernel)
  have w_3 := hts (.initialized ise) (by decide +kernel)
  have fn9 : px_fn wa wb wc wd = px_nz wa 4 + px_nz wb 4 + px_nz wc 4 + px_nz wd 4 := rfl
  have z0 := px_nz_le wa 4
  have z1 := px_nz_le wb 4
  have z2 := px_nz_le wc 4
  have z3 := px_nz_le wd 4
  refine lv_iload_n hx hb dX5_feed_0 rfl (lv_at hl 1 rfl) ?_
  refine lv_if_eq (tgt := 19) hx hb dX5_feed_1 (by decide) (fun c_1 => ?_) (fun c_1 => ?_)
  · exfalso; grind
  · refine lv_iload_n hx hb dX5_feed_4 rfl (lv_at hl 1 rfl) ?_
    refine lv_iconst (v := 1) hx hb dX5_feed_5 (by decide) ?_
    refine lv_icmp_eq (tgt := 19) hx hb dX5_feed_6 (by decide) (fun c_6 => ?_) (fun c_6 => ?_)
    · refine lv_iload_n hx hb dX5_feed_19 rfl (lv_at hl 1 rfl) ?_
      refine lv_if_ne (tgt := 30) hx hb dX5_feed_20 (by decide) (fun c_20 => ?_) (fun c_20 => ?_)
      · refine lv_aload_n hx hb dX5_feed_30 rfl (lv_at hl 0 rfl) ?_
        refine va_get (D := D) (ci := 5) (v := .ref xt) (C := RX5) (T := TX5) (N := 7) hx hb hts i_X5 hown hK hP 0 rfl rfl 1 (by decide) w_0 (fun _ h9 => h9) rfl dX5_feed_31 ?_
        refine lv_astore (lv' := [(6, .ref xt), (0, .ref x), (1, .int rw), (2, .int wa), (3, .int wb), (4, .int wc), (5, .int wd)]) hx hb dX5_feed_34 hl (by decide) rfl (fun ls hl => ?_)
        refine lv_iload_n hx hb dX5_feed_36 rfl (lv_at hl 3 rfl) ?_
        have fr := fr_x (wc := []) (wr := [(x, .inr (5, [.ref xp, .ref xt, .ref so, .ref g, .ref sc, .ref fo, .int sof])), (xt, .inr (4, [.ref xta, .int (nI nn)])), (xta, .inl (cI, 300, .inl tt))]) hP hD hS hA [] [0, 1, 2] rfl rfl (by decide) (by decide) (by decide)
        refine cs_i (J := fun _ => [(x, .inr (5, [.ref xp, .ref xt, .ref so, .ref g, .ref sc, .ref fo, .int sof])), (xt, .inr (4, [.ref xta, .int (nI nn)])), (xta, .inl (cI, 300, .inl tt))]) (As := [.int wa]) (rest := []) ⟨hx, hb, hml, hown, hts⟩ (c_X5_signsIn l D cI cJ cL H.size wa ) (va_cwS 1 hts gX5_feedB_X5_signsIn rfl rfl rfl (by decide +kernel) ⟨Nat.le_of_ble_eq_true rfl, Nat.le_of_ble_eq_true rfl⟩) hK fr.1 fr.2.1 fr.2.2.1 (fun H1 u hk h1 h2 => ⟨(fr.2.2.2 _ H1 hk h1 h2).1.sub [0, 1, 2] rfl, (fr.2.2.2 _ H1 hk h1 h2).2.sub [0, 1, 2] (by decide) rfl⟩) hS rfl hl.1 rfl (Nat.le_of_ble_eq_true rfl) dX5_feed_37 ⟨Nat.le_of_ble_eq_true rfl, Nat.le_of_ble_eq_true rfl⟩ (fun r_2 u_1 H locs hw hP hD hS => ?_)
        subst hw
        refine lv_iload_n hx hb dX5_feed_40 rfl (lv_at hl 4 rfl) ?_
        have fr := fr_x (wc := []) (wr := [(x, .inr (5, [.ref xp, .ref xt, .ref so, .ref g, .ref sc, .ref fo, .int sof])), (xt, .inr (4, [.ref xta, .int (nI nn)])), (xta, .inl (cI, 300, .inl tt))]) hP hD hS hA [] [0, 1, 2] rfl rfl (by decide) (by decide) (by decide)
        refine cs_i (J := fun _ => [(x, .inr (5, [.ref xp, .ref xt, .ref so, .ref g, .ref sc, .ref fo, .int sof])), (xt, .inr (4, [.ref xta, .int (nI nn)])), (xta, .inl (cI, 300, .inl tt))]) (As := [.int wb]) (rest := [.int (nI (px_nz wa 4))]) ⟨hx, hb, hml, hown, hts⟩ (c_X5_signsIn l D cI cJ cL H.size wb ) (va_cwS 1 hts gX5_feedB_X5_signsIn rfl rfl rfl (by decide +kernel) ⟨Nat.le_of_ble_eq_true rfl, Nat.le_of_ble_eq_true rfl⟩) hK fr.1 fr.2.1 fr.2.2.1 (fun H1 u hk h1 h2 => ⟨(fr.2.2.2 _ H1 hk h1 h2).1.sub [0, 1, 2] rfl, (fr.2.2.2 _ H1 hk h1 h2).2.sub [0, 1, 2] (by decide) rfl⟩) hS rfl hl.1 rfl (Nat.le_of_ble_eq_true rfl) dX5_feed_41 ⟨Nat.le_of_ble_eq_true rfl, Nat.le_of_ble_eq_true rfl⟩ (fun r_4 u_3 H locs hw hP hD hS => ?_)
        subst hw
        refine lv_iadd hx hb dX5_feed_44 ?_
        refine lv_cv (y := nI (px_nz wa 4 + (px_nz wb 4))) (nI_add (px_nz wa 4) (px_nz wb 4)) ?_
        refine lv_iload hx hb dX5_feed_45 (lv_at hl 5 rfl) ?_
        have fr := fr_x (wc := []) (wr := [(x, .inr (5, [.ref xp, .ref xt, .ref so, .ref g, .ref sc, .ref fo, .int sof])), (xt, .inr (4, [.ref xta, .int (nI nn)])), (xta, .inl (cI, 300, .inl tt))]) hP hD hS hA [] [0, 1, 2] rfl rfl (by decide) (by decide) (by decide)
        refine cs_i (J := fun _ => [(x, .inr (5, [.ref xp, .ref xt, .ref so, .ref g, .ref sc, .ref fo, .int sof])), (xt, .inr (4, [.ref xta, .int (nI nn)])), (xta, .inl (cI, 300, .inl tt))]) (As := [.int wc]) (rest := [.int (nI (px_nz wa 4 + (px_nz wb 4)))]) ⟨hx, hb, hml, hown, hts⟩ (c_X5_signsIn l D cI cJ cL H.size wc ) (va_cwS 1 hts gX5_feedB_X5_signsIn rfl rfl rfl (by decide +kernel) ⟨Nat.le_of_ble_eq_true rfl, Nat.le_of_ble_eq_true rfl⟩) hK fr.1 fr.2.1 fr.2.2.1 (fun H1 u hk h1 h2 => ⟨(fr.2.2.2 _ H1 hk h1 h2).1.sub [0, 1, 2] rfl, (fr.2.2.2 _ H1 hk h1 h2).2.sub [0, 1, 2] (by decide) rfl⟩) hS rfl hl.1 rfl (Nat.le_of_ble_eq_true rfl) dX5_feed_47 ⟨Nat.le_of_ble_eq_true rfl, Nat.le_of_ble_eq_true rfl⟩ (fun r_6 u_5 H locs hw hP hD hS => ?_)
        subst hw
        refine lv_iadd hx hb dX5_feed_50 ?_
        refine lv_cv (y := nI (px_nz wa 4 + (px_nz wb 4) + (px_nz wc 4))) (nI_add (px_nz wa 4 + (px_nz wb 4)) (px_nz wc 4)) ?_
        refine lv_iload hx hb dX5_feed_51 (lv_at hl 6 rfl) ?_
        have fr := fr_x (wc := []) (wr := [(x, .inr (5, [.ref xp, .ref xt, .ref so, .ref g, .ref sc, .ref fo, .int sof])), (xt, .inr (4, [.ref xta, .int (nI nn)])), (xta, .inl (cI, 300, .inl tt))]) hP hD hS hA [] [0, 1, 2] rfl rfl (by decide) (by decide) (by decide)
        refine cs_i (J := fun _ => [(x, .inr (5, [.ref xp, .ref xt, .ref so, .ref g, .ref sc, .ref fo, .int sof])), (xt, .inr (4, [.ref xta, .int (nI nn)])), (xta, .inl (cI, 300, .inl tt))]) (As := [.int wd]) (rest := [.int (nI (px_nz wa 4 + (px_nz wb 4) + (px_nz wc 4)))]) ⟨hx, hb, hml, hown, hts⟩ (c_X5_signsIn l D cI cJ cL H.size wd ) (va_cwS 1 hts gX5_feedB_X5_signsIn rfl rfl rfl (by decide +kernel) ⟨Nat.le_of_ble_eq_true rfl, Nat.le_of_ble_eq_true rfl⟩) hK fr.1 fr.2.1 fr.2.2.1 (fun H1 u hk h1 h2 => ⟨(fr.2.2.2 _ H1 hk h1 h2).1.sub [0, 1, 2] rfl, (fr.2.2.2 _ H1 hk h1 h2).2.sub [0, 1, 2] (by decide) rfl⟩) hS rfl hl.1 rfl (Nat.le_of_ble_eq_true rfl) dX5_feed_53 ⟨Nat.le_of_ble_eq_true rfl, Nat.le_of_ble_eq_true rfl⟩ (fun r_8 u_7 H locs hw hP hD hS => ?_)
        subst hw
        refine lv_iadd hx hb dX5_feed_56 ?_
        refine lv_cv (y := nI (px_nz wa 4 + (px_nz wb 4) + (px_nz wc 4) + (px_nz wd 4))) (nI_add (px_nz wa 4 + (px_nz wb 4) + (px_nz wc 4)) (px_nz wd 4)) ?_
        refine lv_aload hx hb dX5_feed_57 (lv_at hl 0 rfl) ?_
        have fr := fr_x (wc := [(xt, .inr (4, [.ref xta, .int (nI nn)])), (xta, .inl (cI, 300, .inl tt))]) (wr := [(x, .inr (5, [.ref xp, .ref xt, .ref so, .ref g, .ref sc, .ref fo, .int sof]))]) hP hD hS hA [1, 2] [0] rfl rfl (by decide) (by decide) (by decide)
        refine cv_i (J := fun _ => [(x, .inr (5, [.ref xp, .ref xt, .ref so, .ref g, .ref sc, .ref fo, .int sof])), (xt, .inr (4, [.ref xta, .int (nI nn)])), (xta, .inl (cI, 300, .inl tt))]) (As := []) (rest := [.int (nI (px_nz wa 4 + (px_nz wb 4) + (px_nz wc 4) + (px_nz wd 4)))]) (q0 := 0) (ci := 4) ⟨hx, hb, hml, hown, hts⟩ (c_X4_room l D cI cJ cL H.size xt xta 300 nn tt (by omega)) (cwV 0 hts gX5_feedB_X4_room rfl rfl rfl (by decide +kernel) ⟨Nat.le_of_ble_eq_true rfl, Nat.le_of_ble_eq_true rfl⟩) hK fr.1 fr.2.1 fr.2.2.1 (fun H1 u hk h1 h2 => ⟨(fr.2.2.2 _ H1 hk h1 h2).1.sub [0, 1, 2] rfl, (fr.2.2.2 _ H1 hk h1 h2).2.sub [0, 1, 2] (by decide) rfl⟩) hS rfl rfl rfl rfl hl.1 rfl (Nat.le_of_ble_eq_true rfl) dX5_feed_59 ⟨Nat.le_of_ble_eq_true rfl, Nat.le_of_ble_eq_true rfl⟩ (fun r_10 u_9 H locs hw hP hD hS => ?_)
        subst hw
        refine lv_icmp_le (tgt := 75) hx hb dX5_feed_62 (by decide) (fun c_62 => ?_) (fun c_62 => ?_)
        · have k_62 : px_nz wa 4 + (px_nz wb 4) + (px_nz wc 4) + (px_nz wd 4) ≤ 300 - nn := (nI_leI (a := px_nz wa 4 + (px_nz wb 4) + (px_nz wc 4) + (px_nz wd 4)) (b := 300 - nn) (by omega) (by omega)).mp c_62
          exfalso; grind
        · have k_62 : ¬ (px_nz wa 4 + (px_nz wb 4) + (px_nz wc 4) + (px_nz wd 4) ≤ 300 - nn) := fun q => c_62 ((nI_leI (a := px_nz wa 4 + (px_nz wb 4) + (px_nz wc 4) + (px_nz wd 4)) (b := 300 - nn) (by omega) (by omega)).mpr q)
          exact thr () hx hb htr hown (by decide +kernel) (by decide +kernel) w_2 w_3 (hE.2.2.1 (70, "there would be too many signs") (by decide +kernel)) (vx_hat (fun w h => hts w (List.mem_cons_of_mem _ (List.mem_append_right _ h))) xb_ise (xK.at hE.2.2.2.2.2)) xg_ise hE hS (by rw [hml]; exact hl.1) dX5_feed_65 dX5_feed_68 dX5_feed_69 dX5_feed_71 dX5_feed_74 ht (Nat.le_of_ble_eq_true rfl) (Nat.le_of_ble_eq_true rfl) (Nat.le_of_ble_eq_true rfl) (Nat.le_of_ble_eq_true rfl) hlocks hK hP hD trivial (Nat.le_of_ble_eq_true rfl) (Nat.le_of_ble_eq_true rfl)
      · exfalso; grind
    · exfalso; grind

set_option maxHeartbeats 4000000 in
set_option maxRecDepth 100000 in
theorem c_X5_clear_no (l : Launch) (htr : l.stackTraces = false) (D : va_G) (cI cJ cL : ClassId) (sz : Nat) (x : Nat) (xp : Nat) (xt : Nat) (so : Nat) (g : Nat) (sc : Nat) (fo : Nat) (sof : Int32) (rw : Int32) (h0 : ¬ rw = 0) (h1 : ¬ rw = 1) :
    vx_Met l yX5_clear wsX5_clearB { frames := 6, cells := 1, slots := 6, locals := 90 } (va_Pc [.ref x, .int rw] (Wx D [(cI, .int), (cJ, .array .int), (cL, .long)] [(x, .inr (5, [.ref xp, .ref xt, .ref so, .ref g, .ref sc, .ref fo, .int sof]))] sz))
      (fun _ _ _ _ => False) (vx_X (fun (_ : Unit) => True) (fun E _ t => E = nse ∧ Wa D [(cI, .int), (cJ, .array .int), (cL, .long)] (va_A [(x, .inr (5, [.ref xp, .ref xt, .ref so, .ref g, .ref sc, .ref fo, .int sof]))] sz) [(x, .inr (5, [.ref xp, .ref xt, .ref so, .ref g, .ref sc, .ref fo, .int sof]))] t) (va_A [(x, .inr (5, [.ref xp, .ref xt, .ref so, .ref g, .ref sc, .ref fo, .int sof]))] sz)) 1 6 (va_A [(x, .inr (5, [.ref xp, .ref xt, .ref so, .ref g, .ref sc, .ref fo, .int sof]))] sz) := by
  refine vx_ofW (cc := cX5_clear) (maxL := 4) (ret := (some .int)) (by decide) rfl ?_
  intro p e s m args below meth c s₁ B hml ht hv
  obtain ⟨rfl, ⟨hsz, hP, hK, hD0⟩, hE⟩ := hv
  have hx := B.exec
  have hb := B.bytes
  have hr := B.returns
  have hts := atoms_spec (ws := wsX5_clearB) B.pre
  have hown : s.vm.findClass RX5 = some m.cls := findClass_of_methodNamed B.named
  have hlocks := B.notSynchronized
  subst hsz
  have hD := hD0.self (sz := s.heap.size)
  generalize hAe : va_A [(x, .inr (5, [.ref xp, .ref xt, .ref so, .ref g, .ref sc, .ref fo, .int sof]))] s.heap.size = A at hD hE ⊢
  have hA : ∀ q : Nat, s.heap.size ≤ q → A q := fun q h => by rw [← hAe]; exact Or.inr h
  have hl := lv_entry ([.ref x, .int rw]) (n := 4) (Nat.le_of_ble_eq_true rfl)
  rw [lg_entry_eq]
  generalize (lg_sl ([.ref x, .int rw]) ++ List.replicate (4 - (lg_sl ([.ref x, .int rw])).length) Slot.unset).toArray = ls at hl ⊢
  have hl : lv_has ls 4 [(0, .ref x), (1, .int rw)] := hl
  refine hv_start (A := A) (ws := [(x, .inr (5, [.ref xp, .ref xt, .ref so, .ref g, .ref sc, .ref fo, .int sof]))]) hP (fun H locs hP hS => ?_)
  have w_0 := hts (.classLink RX5 53 nse) (by decide +kernel)
  have w_1 := hts (.initialized nse) (by decide +kernel)
  refine lv_iload_n hx hb dX5_clear_0 rfl (lv_at hl 1 rfl) ?_
  refine lv_if_eq (tgt := 19) hx hb dX5_clear_1 (by decide) (fun c_1 => ?_) (fun c_1 => ?_)
  · exfalso; grind
  · refine lv_iload_n hx hb dX5_clear_4 rfl (lv_at hl 1 rfl) ?_
    refine lv_iconst (v := 1) hx hb dX5_clear_5 (by decide) ?_
    refine lv_icmp_eq (tgt := 19) hx hb dX5_clear_6 (by decide) (fun c_6 => ?_) (fun c_6 => ?_)
    · exfalso; grind
    · exact thrX () rx_0 rx_1 rx_2 rx_5 hx hb htr hown (by decide +kernel) (by decide +kernel) w_0 w_1 (hE.2.2.1 (55, "there is no such row") (by decide +kernel)) (vx_hat (fun w h => hts w (List.mem_cons_of_mem _ (List.mem_append_right _ h))) xb_nse (xK.at hE.2.2.2.2.2)) xg_nse hE hS (by rw [hml]; exact hl.1) dX5_clear_9 dX5_clear_12 dX5_clear_13 dX5_clear_15 dX5_clear_18 ht (Nat.le_of_ble_eq_true rfl) (Nat.le_of_ble_eq_true rfl) (Nat.le_of_ble_eq_true rfl) (Nat.le_of_ble_eq_true rfl) hlocks hK hP hD trivial (Nat.le_of_ble_eq_true rfl) (Nat.le_of_ble_eq_true rfl)

set_option maxHeartbeats 4000000 in
set_option maxRecDepth 100000 in
theorem c_X5_search_no (l : Launch) (htr : l.stackTraces = false) (D : va_G) (cI cJ cL : ClassId) (sz : Nat) (x : Nat) (xp : Nat) (xt : Nat) (so : Nat) (g : Nat) (sc : Nat) (fo : Nat) (sof : Int32) (mode : Int32) (bound : Int32) (h0 : ¬ (0 ≤ mode ∧ mode ≤ 2 ∧ 0 ≤ bound ∧ bound ≤ 450)) :
    vx_Met l yX5_search wsX5_search { frames := 6, cells := 1, slots := 6, locals := 90 } (va_Pc [.ref x, .int mode, .int bound] (Wx D [(cI, .int), (cJ, .array .int), (cL, .long)] [(x, .inr (5, [.ref xp, .ref xt, .ref so, .ref g, .ref sc, .ref fo, .int sof]))] sz))
      (fun _ _ _ _ => False) (vx_X (fun (_ : Unit) => True) (fun E _ t => E = iae ∧ Wa D [(cI, .int), (cJ, .array .int), (cL, .long)] (va_A [(x, .inr (5, [.ref xp, .ref xt, .ref so, .ref g, .ref sc, .ref fo, .int sof]))] sz) [(x, .inr (5, [.ref xp, .ref xt, .ref so, .ref g, .ref sc, .ref fo, .int sof]))] t) (va_A [(x, .inr (5, [.ref xp, .ref xt, .ref so, .ref g, .ref sc, .ref fo, .int sof]))] sz)) 1 6 (va_A [(x, .inr (5, [.ref xp, .ref xt, .ref so, .ref g, .ref sc, .ref fo, .int sof]))] sz) := by
  refine vx_ofW (cc := cX5_search) (maxL := 3) (ret := (some .int)) (by decide) rfl ?_
  intro p e s m args below meth c s₁ B hml ht hv
  obtain ⟨rfl, ⟨hsz, hP, hK, hD0⟩, hE⟩ := hv
  have hx := B.exec
  have hb := B.bytes
  have hr := B.returns
  have hts := atoms_spec (ws := wsX5_search) B.pre
  have hown : s.vm.findClass RX5 = some m.cls := findClass_of_methodNamed B.named
  have hlocks := B.notSynchronized
  subst hsz
  have hD := hD0.self (sz := s.heap.size)
  generalize hAe : va_A [(x, .inr (5, [.ref xp, .ref xt, .ref so, .ref g, .ref sc, .ref fo, .int sof]))] s.heap.size = A at hD hE ⊢
  have hA : ∀ q : Nat, s.heap.size ≤ q → A q := fun q h => by rw [← hAe]; exact Or.inr h
  have hl := lv_entry ([.ref x, .int mode, .int bound]) (n := 3) (Nat.le_of_ble_eq_true rfl)
  rw [lg_entry_eq]
  generalize (lg_sl ([.ref x, .int mode, .int bound]) ++ List.replicate (3 - (lg_sl ([.ref x, .int mode, .int bound])).length) Slot.unset).toArray = ls at hl ⊢
  have hl : lv_has ls 3 [(0, .ref x), (1, .int mode), (2, .int bound)] := hl
  refine hv_start (A := A) (ws := [(x, .inr (5, [.ref xp, .ref xt, .ref so, .ref g, .ref sc, .ref fo, .int sof]))]) hP (fun H locs hP hS => ?_)
  have w_0 := hts (.classLink RX5 82 iae) (by decide +kernel)
  have w_1 := hts (.initialized iae) (by decide +kernel)
  refine lv_iload_n hx hb dX5_search_0 rfl (lv_at hl 1 rfl) ?_
  refine lv_if_lt (tgt := 9) hx hb dX5_search_1 (by decide) (fun c_1 => ?_) (fun c_1 => ?_)
  · exact thr () hx hb htr hown (by decide +kernel) (by decide +kernel) w_0 w_1 (hE.2.2.1 (84, "mode is not 0 .. 2") (by decide +kernel)) (vx_hat (fun w h => hts w (List.mem_cons_of_mem _ (List.mem_append_right _ h))) xb_iae (xK.at hE.2.2.2.2.2)) xg_iae hE hS (by rw [hml]; exact hl.1) dX5_search_9 dX5_search_12 dX5_search_13 dX5_search_15 dX5_search_18 ht (Nat.le_of_ble_eq_true rfl) (Nat.le_of_ble_eq_true rfl) (Nat.le_of_ble_eq_true rfl) (Nat.le_of_ble_eq_true rfl) hlocks hK hP hD trivial (Nat.le_of_ble_eq_true rfl) (Nat.le_of_ble_eq_true rfl)
  · refine lv_iload_n hx hb dX5_search_4 rfl (lv_at hl 1 rfl) ?_
    refine lv_iconst (v := 2) hx hb dX5_search_5 (by decide) ?_
    refine lv_icmp_le (tgt := 19) hx hb dX5_search_6 (by decide) (fun c_6 => ?_) (fun c_6 => ?_)
    · refine lv_iload_n hx hb dX5_search_19 rfl (lv_at hl 2 rfl) ?_
      refine lv_if_lt (tgt := 30) hx hb dX5_search_20 (by decide) (fun c_20 => ?_) (fun c_20 => ?_)
      · exact thr () hx hb htr hown (by decide +kernel) (by decide +kernel) w_0 w_1 (hE.2.2.1 (87, "bound is not 0 .. 450") (by decide +kernel)) (vx_hat (fun w h => hts w (List.mem_cons_of_mem _ (List.mem_append_right _ h))) xb_iae (xK.at hE.2.2.2.2.2)) xg_iae hE hS (by rw [hml]; exact hl.1) dX5_search_30 dX5_search_33 dX5_search_34 dX5_search_36 dX5_search_39 ht (Nat.le_of_ble_eq_true rfl) (Nat.le_of_ble_eq_true rfl) (Nat.le_of_ble_eq_true rfl) (Nat.le_of_ble_eq_true rfl) hlocks hK hP hD trivial (Nat.le_of_ble_eq_true rfl) (Nat.le_of_ble_eq_true rfl)
      · refine lv_iload_n hx hb dX5_search_23 rfl (lv_at hl 2 rfl) ?_
        refine lv_sipush (v := 450) hx hb dX5_search_24 (by decide) ?_
        refine lv_icmp_le (tgt := 40) hx hb dX5_search_27 (by decide) (fun c_27 => ?_) (fun c_27 => ?_)
        · exact absurd ⟨Int32.not_lt.mp c_1, c_6, Int32.not_lt.mp c_20, c_27⟩ h0
        · exact thr () hx hb htr hown (by decide +kernel) (by decide +kernel) w_0 w_1 (hE.2.2.1 (87, "bound is not 0 .. 450") (by decide +kernel)) (vx_hat (fun w h => hts w (List.mem_cons_of_mem _ (List.mem_append_right _ h))) xb_iae (xK.at hE.2.2.2.2.2)) xg_iae hE hS (by rw [hml]; exact hl.1) dX5_search_30 dX5_search_33 dX5_search_34 dX5_search_36 dX5_search_39 ht (Nat.le_of_ble_eq_true rfl) (Nat.le_of_ble_eq_true rfl) (Nat.le_of_ble_eq_true rfl) (Nat.le_of_ble_eq_true rfl) hlocks hK hP hD trivial (Nat.le_of_ble_eq_true rfl) (Nat.le_of_ble_eq_true rfl)
    · exact thr () hx hb htr hown (by decide +kernel) (by decide +kernel) w_0 w_1 (hE.2.2.1 (84, "mode is not 0 .. 2") (by decide +kernel)) (vx_hat (fun w h => hts w (List.mem_cons_of_mem _ (List.mem_append_right _ h))) xb_iae (xK.at hE.2.2.2.2.2)) xg_iae hE hS (by rw [hml]; exact hl.1) dX5_search_9 dX5_search_12 dX5_search_13 dX5_search_15 dX5_search_18 ht (Nat.le_of_ble_eq_true rfl) (Nat.le_of_ble_eq_true rfl) (Nat.le_of_ble_eq_true rfl) (Nat.le_of_ble_eq_true rfl) hlocks hK hP hD trivial (Nat.le_of_ble_eq_true rfl) (Nat.le_of_ble_eq_true rfl)

set_option maxHeartbeats 4000000 in
set_option maxRecDepth 100000 in
theorem c_X5_found_nf (l : Launch) (htr : l.stackTraces = false) (D : va_G) (cI cJ cL : ClassId) (sz : Nat) (x : Nat) (xp : Nat) (xt : Nat) (so : Nat) (g : Nat) (sc : Nat) (fo : Nat) (sof : Int32) (gp : Nat) (gpa : Nat) (gt : Nat) (gta : Nat) (ge : Nat) (gd : Nat) (gs : Nat) (gn : Nat) (gl : Nat) (om : Nat) (on : Nat) (cnt : Nat) (op : Nat → Int32) (ot : Nat → Int32) (fe : Nat → Int32) (fd : Nat → Int32) (fs : Nat → Int32) (fn : Nat → Int32) (fl : Nat → Int32) (f : Int32) (what : Int32) (h0 : ¬ (0 ≤ f ∧ f < nI cnt)) :
    vx_Met l yX5_found wsX5_foundB { frames := 6, cells := 1, slots := 6, locals := 90 } (va_Pc [.ref x, .int f, .int what] (Wx D [(cI, .int), (cJ, .array .int), (cL, .long)] [(x, .inr (5, [.ref xp, .ref xt, .ref so, .ref g, .ref sc, .ref fo, .int sof])), (g, .inr (0, [.ref gp, .ref gt, .ref ge, .ref gd, .ref gs, .int (nI cnt), .ref gn, .ref gl])), (gp, .inr (4, [.ref gpa, .int (nI om)])), (gpa, .inl (cI, 150, .inl op)), (gt, .inr (4, [.ref gta, .int (nI on)])), (gta, .inl (cI, 300, .inl ot)), (ge, .inl (cI, 301, .inl fe)), (gd, .inl (cI, 301, .inl fd)), (gs, .inl (cI, 301, .inl fs)), (gn, .inl (cI, 151, .inl fn)), (gl, .inl (cI, 151, .inl fl))] sz))
      (fun _ _ _ _ => False) (vx_X (fun (_ : Unit) => True) (fun E _ t => E = nse ∧ Wa D [(cI, .int), (cJ, .array .int), (cL, .long)] (va_A [(x, .inr (5, [.ref xp, .ref xt, .ref so, .ref g, .ref sc, .ref fo, .int sof])), (g, .inr (0, [.ref gp, .ref gt, .ref ge, .ref gd, .ref gs, .int (nI cnt), .ref gn, .ref gl])), (gp, .inr (4, [.ref gpa, .int (nI om)])), (gpa, .inl (cI, 150, .inl op)), (gt, .inr (4, [.ref gta, .int (nI on)])), (gta, .inl (cI, 300, .inl ot)), (ge, .inl (cI, 301, .inl fe)), (gd, .inl (cI, 301, .inl fd)), (gs, .inl (cI, 301, .inl fs)), (gn, .inl (cI, 151, .inl fn)), (gl, .inl (cI, 151, .inl fl))] sz) [(x, .inr (5, [.ref xp, .ref xt, .ref so, .ref g, .ref sc, .ref fo, .int sof])), (g, .inr (0, [.ref gp, .ref gt, .ref ge, .ref gd, .ref gs, .int (nI cnt), .ref gn, .ref gl])), (gp, .inr (4, [.ref gpa, .int (nI om)])), (gpa, .inl (cI, 150, .inl op)), (gt, .inr (4, [.ref gta, .int (nI on)])), (gta, .inl (cI, 300, .inl ot)), (ge, .inl (cI, 301, .inl fe)), (gd, .inl (cI, 301, .inl fd)), (gs, .inl (cI, 301, .inl fs)), (gn, .inl (cI, 151, .inl fn)), (gl, .inl (cI, 151, .inl fl))] t) (va_A [(x, .inr (5, [.ref xp, .ref xt, .ref so, .ref g, .ref sc, .ref fo, .int sof])), (g, .inr (0, [.ref gp, .ref gt, .ref ge, .ref gd, .ref gs, .int (nI cnt), .ref gn, .ref gl])), (gp, .inr (4, [.ref gpa, .int (nI om)])), (gpa, .inl (cI, 150, .inl op)), (gt, .inr (4, [.ref gta, .int (nI on)])), (gta, .inl (cI, 300, .inl ot)), (ge, .inl (cI, 301, .inl fe)), (gd, .inl (cI, 301, .inl fd)), (gs, .inl (cI, 301, .inl fs)), (gn, .inl (cI, 151, .inl fn)), (gl, .inl (cI, 151, .inl fl))] sz)) 1 6 (va_A [(x, .inr (5, [.ref xp, .ref xt, .ref so, .ref g, .ref sc, .ref fo, .int sof])), (g, .inr (0, [.ref gp, .ref gt, .ref ge, .ref gd, .ref gs, .int (nI cnt), .ref gn, .ref gl])), (gp, .inr (4, [.ref gpa, .int (nI om)])), (gpa, .inl (cI, 150, .inl op)), (gt, .inr (4, [.ref gta, .int (nI on)])), (gta, .inl (cI, 300, .inl ot)), (ge, .inl (cI, 301, .inl fe)), (gd, .inl (cI, 301, .inl fd)), (gs, .inl (cI, 301, .inl fs)), (gn, .inl (cI, 151, .inl fn)), (gl, .inl (cI, 151, .inl fl))] sz) := by
  refine vx_ofW (cc := cX5_found) (maxL := 3) (ret := (some .int)) (by decide) rfl ?_
  intro p e s m args below meth c s₁ B hml ht hv
  obtain ⟨rfl, ⟨hsz, hP, hK, hD0⟩, hE⟩ := hv
  have hx := B.exec
  have hb := B.bytes
  have hr := B.returns
  have hts := atoms_spec (ws := wsX5_foundB) B.pre
  have hown : s.vm.findClass RX5 = some m.cls := findClass_of_methodNamed B.named
  have hlocks := B.notSynchronized
  subst hsz
  have hD := hD0.self (sz := s.heap.size)
  generalize hAe : va_A [(x, .inr (5, [.ref xp, .ref xt, .ref so, .ref g, .ref sc, .ref fo, .int sof])), (g, .inr (0, [.ref gp, .ref gt, .ref ge, .ref gd, .ref gs, .int (nI cnt), .ref gn, .ref gl])), (gp, .inr (4, [.ref gpa, .int (nI om)])), (gpa, .inl (cI, 150, .inl op)), (gt, .inr (4, [.ref gta, .int (nI on)])), (gta, .inl (cI, 300, .inl ot)), (ge, .inl (cI, 301, .inl fe)), (gd, .inl (cI, 301, .inl fd)), (gs, .inl (cI, 301, .inl fs)), (gn, .inl (cI, 151, .inl fn)), (gl, .inl (cI, 151, .inl fl))] s.heap.size = A at hD hE ⊢
  have hA : ∀ q : Nat, s.heap.size ≤ q → A q := fun q h => by rw [← hAe]; exact Or.inr h
  have hl := lv_entry ([.ref x, .int f, .int what]) (n := 3) (Nat.le_of_ble_eq_true rfl)
  rw [lg_entry_eq]
  generalize (lg_sl ([.ref x, .int f, .int what]) ++ List.replicate (3 - (lg_sl ([.ref x, .int f, .int what])).length) Slot.unset).toArray = ls at hl ⊢
  have hl : lv_has ls 3 [(0, .ref x), (1, .int f), (2, .int what)] := hl
  refine hv_start (A := A) (ws := [(x, .inr (5, [.ref xp, .ref xt, .ref so, .ref g, .ref sc, .ref fo, .int sof])), (g, .inr (0, [.ref gp, .ref gt, .ref ge, .ref gd, .ref gs, .int (nI cnt), .ref gn, .ref gl])), (gp, .inr (4, [.ref gpa, .int (nI om)])), (gpa, .inl (cI, 150, .inl op)), (gt, .inr (4, [.ref gta, .int (nI on)])), (gta, .inl (cI, 300, .inl ot)), (ge, .inl (cI, 301, .inl fe)), (gd, .inl (cI, 301, .inl fd)), (gs, .inl (cI, 301, .inl fs)), (gn, .inl (cI, 151, .inl fn)), (gl, .inl (cI, 151, .inl fl))]) hP (fun H locs hP hS => ?_)
  have w_0 := hts (.classLink RX5 53 nse) (by decide +kernel)
  have w_1 := hts (.initialized nse) (by decide +kernel)
  have w_2 := hts (.fieldLink RX5 31 "TextAligner" "findings" "LTextAligner$Findings;") (by decide +kernel)
  have i_X5 : ∀ w ∈ wsX50, w ∈ wsX5_foundB := by decide +kernel
  refine lv_iload_n hx hb dX5_found_0 rfl (lv_at hl 1 rfl) ?_
  refine lv_if_lt (tgt := 15) hx hb dX5_found_1 (by decide) (fun c_1 => ?_) (fun c_1 => ?_)
  · exact thrX () rx_0 rx_1 rx_2 rx_5 hx hb htr hown (by decide +kernel) (by decide +kernel) w_0 w_1 (hE.2.2.1 (94, "there is no such finding") (by decide +kernel)) (vx_hat (fun w h => hts w (List.mem_cons_of_mem _ (List.mem_append_left _ (List.mem_append_right _ h)))) xb_nse (xK.at hE.2.2.2.2.2)) xg_nse hE hS (by rw [hml]; exact hl.1) dX5_found_15 dX5_found_18 dX5_found_19 dX5_found_21 dX5_found_24 ht (Nat.le_of_ble_eq_true rfl) (Nat.le_of_ble_eq_true rfl) (Nat.le_of_ble_eq_true rfl) (Nat.le_of_ble_eq_true rfl) hlocks hK hP hD trivial (Nat.le_of_ble_eq_true rfl) (Nat.le_of_ble_eq_true rfl)
  · refine lv_iload_n hx hb dX5_found_4 rfl (lv_at hl 1 rfl) ?_
    refine lv_aload_n hx hb dX5_found_5 rfl (lv_at hl 0 rfl) ?_
    refine va_get (D := D) (ci := 5) (v := .ref g) (C := RX5) (T := TX5) (N := 7) hx hb hts i_X5 hown hK hP 0 rfl rfl 3 (by decide) w_2 (fun _ h9 => h9) rfl dX5_found_6 ?_
    have fr := fr_x (wc := [(g, .inr (0, [.ref gp, .ref gt, .ref ge, .ref gd, .ref gs, .int (nI cnt), .ref gn, .ref gl])), (gp, .inr (4, [.ref gpa, .int (nI om)])), (gpa, .inl (cI, 150, .inl op)), (gt, .inr (4, [.ref gta, .int (nI on)])), (gta, .inl (cI, 300, .inl ot)), (ge, .inl (cI, 301, .inl fe)), (gd, .inl (cI, 301, .inl fd)), (gs, .inl (cI, 301, .inl fs)), (gn, .inl (cI, 151, .inl fn)), (gl, .inl (cI, 151, .inl fl))]) (wr := [(x, .inr (5, [.ref xp, .ref xt, .ref so, .ref g, .ref sc, .ref fo, .int sof]))]) hP hD hS hA [1, 2, 3, 4, 5, 6, 7, 8, 9, 10] [0] rfl rfl (by decide) (by decide) (by decide)
    refine cv_i (J := fun _ => [(x, .inr (5, [.ref xp, .ref xt, .ref so, .ref g, .ref sc, .ref fo, .int sof])), (g, .inr (0, [.ref gp, .ref gt, .ref ge, .ref gd, .ref gs, .int (nI cnt), .ref gn, .ref gl])), (gp, .inr (4, [.ref gpa, .int (nI om)])), (gpa, .inl (cI, 150, .inl op)), (gt, .inr (4, [.ref gta, .int (nI on)])), (gta, .inl (cI, 300, .inl ot)), (ge, .inl (cI, 301, .inl fe)), (gd, .inl (cI, 301, .inl fd)), (gs, .inl (cI, 301, .inl fs)), (gn, .inl (cI, 151, .inl fn)), (gl, .inl (cI, 151, .inl fl))]) (As := []) (rest := [.int f]) (q0 := 0) (ci := 0) ⟨hx, hb, hml, hown, hts⟩ (c_X0_size l D cI cJ cL H.size g gp gpa gt gta ge gd gs gn gl om on cnt op ot fe fd fs fn fl ) (cwV 0 hts gX5_foundB_X0_size rfl rfl rfl (by decide +kernel) ⟨Nat.le_of_ble_eq_true rfl, Nat.le_of_ble_eq_true rfl⟩) hK fr.1 fr.2.1 fr.2.2.1 (fun H1 u hk h1 h2 => ⟨(fr.2.2.2 _ H1 hk h1 h2).1.sub [0, 1, 2, 3, 4, 5, 6, 7, 8, 9, 10] rfl, (fr.2.2.2 _ H1 hk h1 h2).2.sub [0, 1, 2, 3, 4, 5, 6, 7, 8, 9, 10] (by decide) rfl⟩) hS rfl rfl rfl rfl hl.1 rfl (Nat.le_of_ble_eq_true rfl) dX5_found_9 ⟨Nat.le_of_ble_eq_true rfl, Nat.le_of_ble_eq_true rfl⟩ (fun r_2 u_1 H locs hw hP hD hS => ?_)
    subst hw
    refine lv_icmp_lt (tgt := 25) hx hb dX5_found_12 (by decide) (fun c_12 => ?_) (fun c_12 => ?_)
    · exact absurd ⟨Int32.not_lt.mp c_1, c_12⟩ h0
    · exact thrX () rx_0 rx_1 rx_2 rx_5 hx hb htr hown (by decide +kernel) (by decide +kernel) w_0 w_1 (hE.2.2.1 (94, "there is no such finding") (by decide +kernel)) (vx_hat (fun w h => hts w (List.mem_cons_of_mem _ (List.mem_append_left _ (List.mem_append_right _ h)))) xb_nse (xK.at hE.2.2.2.2.2)) xg_nse hE hS (by rw [hml]; exact hl.1) dX5_found_15 dX5_found_18 dX5_found_19 dX5_found_21 dX5_found_24 ht (Nat.le_of_ble_eq_true rfl) (Nat.le_of_ble_eq_true rfl) (Nat.le_of_ble_eq_true rfl) (Nat.le_of_ble_eq_true rfl) hlocks hK hP hD trivial (Nat.le_of_ble_eq_true rfl) (Nat.le_of_ble_eq_true rfl)

set_option maxHeartbeats 4000000 in
set_option maxRecDepth 100000 in
theorem c_X5_found_nw (l : Launch) (htr : l.stackTraces = false) (D : va_G) (cI cJ cL : ClassId) (sz : Nat) (x : Nat) (xp : Nat) (xt : Nat) (so : Nat) (g : Nat) (sc : Nat) (fo : Nat) (sof : Int32) (gp : Nat) (gpa : Nat) (gt : Nat) (gta : Nat) (ge : Nat) (gd : Nat) (gs : Nat) (gn : Nat) (gl : Nat) (om : Nat) (on : Nat) (cnt : Nat) (op : Nat → Int32) (ot : Nat → Int32) (fe : Nat → Int32) (fd : Nat → Int32) (fs : Nat → Int32) (fn : Nat → Int32) (fl : Nat → Int32) (i : Nat) (what : Int32) (hi : i < cnt) (hc : cnt ≤ 301) (hw0 : ¬ (0 ≤ what ∧ what ≤ 3)) :
    vx_Met l yX5_found wsX5_foundB { frames := 6, cells := 1, slots := 6, locals := 90 } (va_Pc [.ref x, .int (nI i), .int what] (Wx D [(cI, .int), (cJ, .array .int), (cL, .long)] [(x, .inr (5, [.ref xp, .ref xt, .ref so, .ref g, .ref sc, .ref fo, .int sof])), (g, .inr (0, [.ref gp, .ref gt, .ref ge, .ref gd, .ref gs, .int (nI cnt), .ref gn, .ref gl])), (gp, .inr (4, [.ref gpa, .int (nI om)])), (gpa, .inl (cI, 150, .inl op)), (gt, .inr (4, [.ref gta, .int (nI on)])), (gta, .inl (cI, 300, .inl ot)), (ge, .inl (cI, 301, .inl fe)), (gd, .inl (cI, 301, .inl fd)), (gs, .inl (cI, 301, .inl fs)), (gn, .inl (cI, 151, .inl fn)), (gl, .inl (cI, 151, .inl fl))] sz))
      (fun _ _ _ _ => False) (vx_X (fun (_ : Unit) => True) (fun E _ t => E = iae ∧ Wa D [(cI, .int), (cJ, .array .int), (cL, .long)] (va_A [(x, .inr (5, [.ref xp, .ref xt, .ref so, .ref g, .ref sc, .ref fo, .int sof])), (g, .inr (0, [.ref gp, .ref gt, .ref ge, .ref gd, .ref gs, .int (nI cnt), .ref gn, .ref gl])), (gp, .inr (4, [.ref gpa, .int (nI om)])), (gpa, .inl (cI, 150, .inl op)), (gt, .inr (4, [.ref gta, .int (nI on)])), (gta, .inl (cI, 300, .inl ot)), (ge, .inl (cI, 301, .inl fe)), (gd, .inl (cI, 301, .inl fd)), (gs, .inl (cI, 301, .inl fs)), (gn, .inl (cI, 151, .inl fn)), (gl, .inl (cI, 151, .inl fl))] sz) [(x, .inr (5, [.ref xp, .ref xt, .ref so, .ref g, .ref sc, .ref fo, .int sof])), (g, .inr (0, [.ref gp, .ref gt, .ref ge, .ref gd, .ref gs, .int (nI cnt), .ref gn, .ref gl])), (gp, .inr (4, [.ref gpa, .int (nI om)])), (gpa, .inl (cI, 150, .inl op)), (gt, .inr (4, [.ref gta, .int (nI on)])), (gta, .inl (cI, 300, .inl ot)), (ge, .inl (cI, 301, .inl fe)), (gd, .inl (cI, 301, .inl fd)), (gs, .inl (cI, 301, .inl fs)), (gn, .inl (cI, 151, .inl fn)), (gl, .inl (cI, 151, .inl fl))] t) (va_A [(x, .inr (5, [.ref xp, .ref xt, .ref so, .ref g, .ref sc, .ref fo, .int sof])), (g, .inr (0, [.ref gp, .ref gt, .ref ge, .ref gd, .ref gs, .int (nI cnt), .ref gn, .ref gl])), (gp, .inr (4, [.ref gpa, .int (nI om)])), (gpa, .inl (cI, 150, .inl op)), (gt, .inr (4, [.ref gta, .int (nI on)])), (gta, .inl (cI, 300, .inl ot)), (ge, .inl (cI, 301, .inl fe)), (gd, .inl (cI, 301, .inl fd)), (gs, .inl (cI, 301, .inl fs)), (gn, .inl (cI, 151, .inl fn)), (gl, .inl (cI, 151, .inl fl))] sz)) 1 6 (va_A [(x, .inr (5, [.ref xp, .ref xt, .ref so, .ref g, .ref sc, .ref fo, .int sof])), (g, .inr (0, [.ref gp, .ref gt, .ref ge, .ref gd, .ref gs, .int (nI cnt), .ref gn, .ref gl])), (gp, .inr (4, [.ref gpa, .int (nI om)])), (gpa, .inl (cI, 150, .inl op)), (gt, .inr (4, [.ref gta, .int (nI on)])), (gta, .inl (cI, 300, .inl ot)), (ge, .inl (cI, 301, .inl fe)), (gd, .inl (cI, 301, .inl fd)), (gs, .inl (cI, 301, .inl fs)), (gn, .inl (cI, 151, .inl fn)), (gl, .inl (cI, 151, .inl fl))] sz) := by
  refine vx_ofW (cc := cX5_found) (maxL := 3) (ret := (some .int)) (by decide) rfl ?_
  intro p e s m args below meth c s₁ B hml ht hv
  obtain ⟨rfl, ⟨hsz, hP, hK, hD0⟩, hE⟩ := hv
  have hx := B.exec
  have hb := B.bytes
  have hr := B.returns
  have hts := atoms_spec (ws := wsX5_foundB) B.pre
  have hown : s.vm.findClass RX5 = some m.cls := findClass_of_methodNamed B.named
  have hlocks := B.notSynchronized
  subst hsz
  have hD := hD0.self (sz := s.heap.size)
  generalize hAe : va_A [(x, .inr (5, [.ref xp, .ref xt, .ref so, .ref g, .ref sc, .ref fo, .int sof])), (g, .inr (0, [.ref gp, .ref gt, .ref ge, .ref gd, .ref gs, .int (nI cnt), .ref gn, .ref gl])), (gp, .inr (4, [.ref gpa, .int (nI om)])), (gpa, .inl (cI, 150, .inl op)), (gt, .inr (4, [.ref gta, .int (nI on)])), (gta, .inl (cI, 300, .inl ot)), (ge, .inl (cI, 301, .inl fe)), (gd, .inl (cI, 301, .inl fd)), (gs, .inl (cI, 301, .inl fs)), (gn, .inl (cI, 151, .inl fn)), (gl, .inl (cI, 151, .inl fl))] s.heap.size = A at hD hE ⊢
  have hA : ∀ q : Nat, s.heap.size ≤ q → A q := fun q h => by rw [← hAe]; exact Or.inr h
  have hl := lv_entry ([.ref x, .int (nI i), .int what]) (n := 3) (Nat.le_of_ble_eq_true rfl)
  rw [lg_entry_eq]
  generalize (lg_sl ([.ref x, .int (nI i), .int what]) ++ List.replicate (3 - (lg_sl ([.ref x, .int (nI i), .int what])).length) Slot.unset).toArray = ls at hl ⊢
  have hl : lv_has ls 3 [(0, .ref x), (1, .int (nI i)), (2, .int what)] := hl
  refine hv_start (A := A) (ws := [(x, .inr (5, [.ref xp, .ref xt, .ref so, .ref g, .ref sc, .ref fo, .int sof])), (g, .inr (0, [.ref gp, .ref gt, .ref ge, .ref gd, .ref gs, .int (nI cnt), .ref gn, .ref gl])), (gp, .inr (4, [.ref gpa, .int (nI om)])), (gpa, .inl (cI, 150, .inl op)), (gt, .inr (4, [.ref gta, .int (nI on)])), (gta, .inl (cI, 300, .inl ot)), (ge, .inl (cI, 301, .inl fe)), (gd, .inl (cI, 301, .inl fd)), (gs, .inl (cI, 301, .inl fs)), (gn, .inl (cI, 151, .inl fn)), (gl, .inl (cI, 151, .inl fl))]) hP (fun H locs hP hS => ?_)
  have w_0 := hts (.fieldLink RX5 31 "TextAligner" "findings" "LTextAligner$Findings;") (by decide +kernel)
  have i_X5 : ∀ w ∈ wsX50, w ∈ wsX5_foundB := by decide +kernel
  have w_2 := hts (.classLink RX5 82 iae) (by decide +kernel)
  have w_3 := hts (.initialized iae) (by decide +kernel)
  refine lv_iload_n hx hb dX5_found_0 rfl (lv_at hl 1 rfl) ?_
  refine lv_if_lt (tgt := 15) hx hb dX5_found_1 (by decide) (fun c_1 => ?_) (fun c_1 => ?_)
  · have k_1 : i < 0 := (nI_ltI (a := i) (b := 0) (by omega) (by omega)).mp c_1
    exact absurd k_1 (by omega)
  · have k_1 : ¬ (i < 0) := fun q => c_1 ((nI_ltI (a := i) (b := 0) (by omega) (by omega)).mpr q)
    refine lv_iload_n hx hb dX5_found_4 rfl (lv_at hl 1 rfl) ?_
    refine lv_aload_n hx hb dX5_found_5 rfl (lv_at hl 0 rfl) ?_
    refine va_get (D := D) (ci := 5) (v := .ref g) (C := RX5) (T := TX5) (N := 7) hx hb hts i_X5 hown hK hP 0 rfl rfl 3 (by decide) w_0 (fun _ h9 => h9) rfl dX5_found_6 ?_
    have fr := fr_x (wc := [(g, .inr (0, [.ref gp, .ref gt, .ref ge, .ref gd, .ref gs, .int (nI cnt), .ref gn, .ref gl])), (gp, .inr (4, [.ref gpa, .int (nI om)])), (gpa, .inl (cI, 150, .inl op)), (gt, .inr (4, [.ref gta, .int (nI on)])), (gta, .inl (cI, 300, .inl ot)), (ge, .inl (cI, 301, .inl fe)), (gd, .inl (cI, 301, .inl fd)), (gs, .inl (cI, 301, .inl fs)), (gn, .inl (cI, 151, .inl fn)), (gl, .inl (cI, 151, .inl fl))]) (wr := [(x, .inr (5, [.ref xp, .ref xt, .ref so, .ref g, .ref sc, .ref fo, .int sof]))]) hP hD hS hA [1, 2, 3, 4, 5, 6, 7, 8, 9, 10] [0] rfl rfl (by decide) (by decide) (by decide)
    refine cv_i (J := fun _ => [(x, .inr (5, [.ref xp, .ref xt, .ref so, .ref g, .ref sc, .ref fo, .int sof])), (g, .inr (0, [.ref gp, .ref gt, .ref ge, .ref gd, .ref gs, .int (nI cnt), .ref gn, .ref gl])), (gp, .inr (4, [.ref gpa, .int (nI om)])), (gpa, .inl (cI, 150, .inl op)), (gt, .inr (4, [.ref gta, .int (nI on)])), (gta, .inl (cI, 300, .inl ot)), (ge, .inl (cI, 301, .inl fe)), (gd, .inl (cI, 301, .inl fd)), (gs, .inl (cI, 301, .inl fs)), (gn, .inl (cI, 151, .inl fn)), (gl, .inl (cI, 151, .inl fl))]) (As := []) (rest := [.int (nI i)]) (q0 := 0) (ci := 0) ⟨hx, hb, hml, hown, hts⟩ (c_X0_size l D cI cJ cL H.size g gp gpa gt gta ge gd gs gn gl om on cnt op ot fe fd fs fn fl ) (cwV 0 hts gX5_foundB_X0_size rfl rfl rfl (by decide +kernel) ⟨Nat.le_of_ble_eq_true rfl, Nat.le_of_ble_eq_true rfl⟩) hK fr.1 fr.2.1 fr.2.2.1 (fun H1 u hk h1 h2 => ⟨(fr.2.2.2 _ H1 hk h1 h2).1.sub [0, 1, 2, 3, 4, 5, 6, 7, 8, 9, 10] rfl, (fr.2.2.2 _ H1 hk h1 h2).2.sub [0, 1, 2, 3, 4, 5, 6, 7, 8, 9, 10] (by decide) rfl⟩) hS rfl rfl rfl rfl hl.1 rfl (Nat.le_of_ble_eq_true rfl) dX5_found_9 ⟨Nat.le_of_ble_eq_true rfl, Nat.le_of_ble_eq_true rfl⟩ (fun r_2 u_1 H locs hw hP hD hS => ?_)
    subst hw
    refine lv_icmp_lt (tgt := 25) hx hb dX5_found_12 (by decide) (fun c_12 => ?_) (fun c_12 => ?_)
    · have k_12 : i < cnt := (nI_ltI (a := i) (b := cnt) (by omega) (by omega)).mp c_12
      refine lv_iload_n hx hb dX5_found_25 rfl (lv_at hl 2 rfl) ?_
      refine lv_tableOut (tgt := 96) hx hb dX5_found_26 (by have h0 : (0 : Int32).toInt = 0 := rfl; have h3 : (3 : Int32).toInt = 3 := rfl; rw [px_le, px_le, h0, h3] at hw0; omega) (by decide) ?_
      exact thr () hx hb htr hown (by decide +kernel) (by decide +kernel) w_2 w_3 (hE.2.2.1 (111, "what is not 0 .. 3") (by decide +kernel)) (vx_hat (fun w h => hts w (List.mem_cons_of_mem _ (List.mem_append_right _ h))) xb_iae (xK.at hE.2.2.2.2.2)) xg_iae hE hS (by rw [hml]; exact hl.1) dX5_found_96 dX5_found_99 dX5_found_100 dX5_found_102 dX5_found_105 ht (Nat.le_of_ble_eq_true rfl) (Nat.le_of_ble_eq_true rfl) (Nat.le_of_ble_eq_true rfl) (Nat.le_of_ble_eq_true rfl) hlocks hK hP hD trivial (Nat.le_of_ble_eq_true rfl) (Nat.le_of_ble_eq_true rfl)
    · have k_12 : ¬ (i < cnt) := fun q => c_12 ((nI_ltI (a := i) (b := cnt) (by omega) (by omega)).mpr q)
      exact absurd k_12 (by omega)

set_option maxHeartbeats 4000000 in
set_option maxRecDepth 100000 in
theorem c_X5_step_nf (l : Launch) (htr : l.stackTraces = false) (D : va_G) (cI cJ cL : ClassId) (sz : Nat) (x : Nat) (xp : Nat) (xt : Nat) (so : Nat) (g : Nat) (sc : Nat) (fo : Nat) (sof : Int32) (gp : Nat) (gpa : Nat) (gt : Nat) (gta : Nat) (ge : Nat) (gd : Nat) (gs : Nat) (gn : Nat) (gl : Nat) (om : Nat) (on : Nat) (cnt : Nat) (op : Nat → Int32) (ot : Nat → Int32) (fe : Nat → Int32) (fd : Nat → Int32) (fs : Nat → Int32) (fn : Nat → Int32) (fl : Nat → Int32) (f : Int32) (k : Int32) (h0 : ¬ (0 ≤ f ∧ f < nI cnt)) :
    vx_Met l yX5_step wsX5_stepB { frames := 6, cells := 1, slots := 6, locals := 90 } (va_Pc [.ref x, .int f, .int k] (Wx D [(cI, .int), (cJ, .array .int), (cL, .long)] [(x, .inr (5, [.ref xp, .ref xt, .ref so, .ref g, .ref sc, .ref fo, .int sof])), (g, .inr (0, [.ref gp, .ref gt, .ref ge, .ref gd, .ref gs, .int (nI cnt), .ref gn, .ref gl])), (gp, .inr (4, [.ref gpa, .int (nI om)])), (gpa, .inl (cI, 150, .inl op)), (gt, .inr (4, [.ref gta, .int (nI on)])), (gta, .inl (cI, 300, .inl ot)), (ge, .inl (cI, 301, .inl fe)), (gd, .inl (cI, 301, .inl fd)), (gs, .inl (cI, 301, .inl fs)), (gn, .inl (cI, 151, .inl fn)), (gl, .inl (cI, 151, .inl fl))] sz))
      (fun _ _ _ _ => False) (vx_X (fun (_ : Unit) => True) (fun E _ t => E = nse ∧ Wa D [(cI, .int), (cJ, .array .int), (cL, .long)] (va_A [(x, .inr (5, [.ref xp, .ref xt, .ref so, .ref g, .ref sc, .ref fo, .int sof])), (g, .inr (0, [.ref gp, .ref gt, .ref ge, .ref gd, .ref gs, .int (nI cnt), .ref gn, .ref gl])), (gp, .inr (4, [.ref gpa, .int (nI om)])), (gpa, .inl (cI, 150, .inl op)), (gt, .inr (4, [.ref gta, .int (nI on)])), (gta, .inl (cI, 300, .inl ot)), (ge, .inl (cI, 301, .inl fe)), (gd, .inl (cI, 301, .inl fd)), (gs, .inl (cI, 301, .inl fs)), (gn, .inl (cI, 151, .inl fn)), (gl, .inl (cI, 151, .inl fl))] sz) [(x, .inr (5, [.ref xp, .ref xt, .ref so, .ref g, .ref sc, .ref fo, .int sof])), (g, .inr (0, [.ref gp, .ref gt, .ref ge, .ref gd, .ref gs, .int (nI cnt), .ref gn, .ref gl])), (gp, .inr (4, [.ref gpa, .int (nI om)])), (gpa, .inl (cI, 150, .inl op)), (gt, .inr (4, [.ref gta, .int (nI on)])), (gta, .inl (cI, 300, .inl ot)), (ge, .inl (cI, 301, .inl fe)), (gd, .inl (cI, 301, .inl fd)), (gs, .inl (cI, 301, .inl fs)), (gn, .inl (cI, 151, .inl fn)), (gl, .inl (cI, 151, .inl fl))] t) (va_A [(x, .inr (5, [.ref xp, .ref xt, .ref so, .ref g, .ref sc, .ref fo, .int sof])), (g, .inr (0, [.ref gp, .ref gt, .ref ge, .ref gd, .ref gs, .int (nI cnt), .ref gn, .ref gl])), (gp, .inr (4, [.ref gpa, .int (nI om)])), (gpa, .inl (cI, 150, .inl op)), (gt, .inr (4, [.ref gta, .int (nI on)])), (gta, .inl (cI, 300, .inl ot)), (ge, .inl (cI, 301, .inl fe)), (gd, .inl (cI, 301, .inl fd)), (gs, .inl (cI, 301, .inl fs)), (gn, .inl (cI, 151, .inl fn)), (gl, .inl (cI, 151, .inl fl))] sz)) 1 6 (va_A [(x, .inr (5, [.ref xp, .ref xt, .ref so, .ref g, .ref sc, .ref fo, .int sof])), (g, .inr (0, [.ref gp, .ref gt, .ref ge, .ref gd, .ref gs, .int (nI cnt), .ref gn, .ref gl])), (gp, .inr (4, [.ref gpa, .int (nI om)])), (gpa, .inl (cI, 150, .inl op)), (gt, .inr (4, [.ref gta, .int (nI on)])), (gta, .inl (cI, 300, .inl ot)), (ge, .inl (cI, 301, .inl fe)), (gd, .inl (cI, 301, .inl fd)), (gs, .inl (cI, 301, .inl fs)), (gn, .inl (cI, 151, .inl fn)), (gl, .inl (cI, 151, .inl fl))] sz) := by
  refine vx_ofW (cc := cX5_step) (maxL := 3) (ret := (some .int)) (by decide) rfl ?_
  intro p e s m args below meth c s₁ B hml ht hv
  obtain ⟨rfl, ⟨hsz, hP, hK, hD0⟩, hE⟩ := hv
  have hx := B.exec
  have hb := B.bytes
  have hr := B.returns
  have hts := atoms_spec (ws := wsX5_stepB) B.pre
  have hown : s.vm.findClass RX5 = some m.cls := findClass_of_methodNamed B.named
  have hlocks := B.notSynchronized
  subst hsz
  have hD := hD0.self (sz := s.heap.size)
  generalize hAe : va_A [(x, .inr (5, [.ref xp, .ref xt, .ref so, .ref g, .ref sc, .ref fo, .int sof])), (g, .inr (0, [.ref gp, .ref gt, .ref ge, .ref gd, .ref gs, .int (nI cnt), .ref gn, .ref gl])), (gp, .inr (4, [.ref gpa, .int (nI om)])), (gpa, .inl (cI, 150, .inl op)), (gt, .inr (4, [.ref gta, .int (nI on)])), (gta, .inl (cI, 300, .inl ot)), (ge, .inl (cI, 301, .inl fe)), (gd, .inl (cI, 301, .inl fd)), (gs, .inl (cI, 301, .inl fs)), (gn, .inl (cI, 151, .inl fn)), (gl, .inl (cI, 151, .inl fl))] s.heap.size = A at hD hE ⊢
  have hA : ∀ q : Nat, s.heap.size ≤ q → A q := fun q h => by rw [← hAe]; exact Or.inr h
  have hl := lv_entry ([.ref x, .int f, .int k]) (n := 3) (Nat.le_of_ble_eq_true rfl)
  rw [lg_entry_eq]
  generalize (lg_sl ([.ref x, .int f, .int k]) ++ List.replicate (3 - (lg_sl ([.ref x, .int f, .int k])).length) Slot.unset).toArray = ls at hl ⊢
  have hl : lv_has ls 3 [(0, .ref x), (1, .int f), (2, .int k)] := hl
  refine hv_start (A := A) (ws := [(x, .inr (5, [.ref xp, .ref xt, .ref so, .ref g, .ref sc, .ref fo, .int sof])), (g, .inr (0, [.ref gp, .ref gt, .ref ge, .ref gd, .ref gs, .int (nI cnt), .ref gn, .ref gl])), (gp, .inr (4, [.ref gpa, .int (nI om)])), (gpa, .inl (cI, 150, .inl op)), (gt, .inr (4, [.ref gta, .int (nI on)])), (gta, .inl (cI, 300, .inl ot)), (ge, .inl (cI, 301, .inl fe)), (gd, .inl (cI, 301, .inl fd)), (gs, .inl (cI, 301, .inl fs)), (gn, .inl (cI, 151, .inl fn)), (gl, .inl (cI, 151, .inl fl))]) hP (fun H locs hP hS => ?_)
  have w_0 := hts (.classLink RX5 53 nse) (by decide +kernel)
  have w_1 := hts (.initialized nse) (by decide +kernel)
  have w_2 := hts (.fieldLink RX5 31 "TextAligner" "findings" "LTextAligner$Findings;") (by decide +kernel)
  have i_X5 : ∀ w ∈ wsX50, w ∈ wsX5_stepB := by decide +kernel
  refine lv_iload_n hx hb dX5_step_0 rfl (lv_at hl 1 rfl) ?_
  refine lv_if_lt (tgt := 15) hx hb dX5_step_1 (by decide) (fun c_1 => ?_) (fun c_1 => ?_)
  · exact thrX () rx_0 rx_1 rx_2 rx_5 hx hb htr hown (by decide +kernel) (by decide +kernel) w_0 w_1 (hE.2.2.1 (94, "there is no such finding") (by decide +kernel)) (vx_hat (fun w h => hts w (List.mem_cons_of_mem _ (List.mem_append_right _ h))) xb_nse (xK.at hE.2.2.2.2.2)) xg_nse hE hS (by rw [hml]; exact hl.1) dX5_step_15 dX5_step_18 dX5_step_19 dX5_step_21 dX5_step_24 ht (Nat.le_of_ble_eq_true rfl) (Nat.le_of_ble_eq_true rfl) (Nat.le_of_ble_eq_true rfl) (Nat.le_of_ble_eq_true rfl) hlocks hK hP hD trivial (Nat.le_of_ble_eq_true rfl) (Nat.le_of_ble_eq_true rfl)
  · refine lv_iload_n hx hb dX5_step_4 rfl (lv_at hl 1 rfl) ?_
    refine lv_aload_n hx hb dX5_step_5 rfl (lv_at hl 0 rfl) ?_
    refine va_get (D := D) (ci := 5) (v := .ref g) (C := RX5) (T := TX5) (N := 7) hx hb hts i_X5 hown hK hP 0 rfl rfl 3 (by decide) w_2 (fun _ h9 => h9) rfl dX5_step_6 ?_
    have fr := fr_x (wc := [(g, .inr (0, [.ref gp, .ref gt, .ref ge, .ref gd, .ref gs, .int (nI cnt), .ref gn, .ref gl])), (gp, .inr (4, [.ref gpa, .int (nI om)])), (gpa, .inl (cI, 150, .inl op)), (gt, .inr (4, [.ref gta, .int (nI on)])), (gta, .inl (cI, 300, .inl ot)), (ge, .inl (cI, 301, .inl fe)), (gd, .inl (cI, 301, .inl fd)), (gs, .inl (cI, 301, .inl fs)), (gn, .inl (cI, 151, .inl fn)), (gl, .inl (cI, 151, .inl fl))]) (wr := [(x, .inr (5, [.ref xp, .ref xt, .ref so, .ref g, .ref sc, .ref fo, .int sof]))]) hP hD hS hA [1, 2, 3, 4, 5, 6, 7, 8, 9, 10] [0] rfl rfl (by decide) (by decide) (by decide)
    refine cv_i (J := fun _ => [(x, .inr (5, [.ref xp, .ref xt, .ref so, .ref g, .ref sc, .ref fo, .int sof])), (g, .inr (0, [.ref gp, .ref gt, .ref ge, .ref gd, .ref gs, .int (nI cnt), .ref gn, .ref gl])), (gp, .inr (4, [.ref gpa, .int (nI om)])), (gpa, .inl (cI, 150, .inl op)), (gt, .inr (4, [.ref gta, .int (nI on)])), (gta, .inl (cI, 300, .inl ot)), (ge, .inl (cI, 301, .inl fe)), (gd, .inl (cI, 301, .inl fd)), (gs, .inl (cI, 301, .inl fs)), (gn, .inl (cI, 151, .inl fn)), (gl, .inl (cI, 151, .inl fl))]) (As := []) (rest := [.int f]) (q0 := 0) (ci := 0) ⟨hx, hb, hml, hown, hts⟩ (c_X0_size l D cI cJ cL H.size g gp gpa gt gta ge gd gs gn gl om on cnt op ot fe fd fs fn fl ) (cwV 0 hts gX5_stepB_X0_size rfl rfl rfl (by decide +kernel) ⟨Nat.le_of_ble_eq_true rfl, Nat.le_of_ble_eq_true rfl⟩) hK fr.1 fr.2.1 fr.2.2.1 (fun H1 u hk h1 h2 => ⟨(fr.2.2.2 _ H1 hk h1 h2).1.sub [0, 1, 2, 3, 4, 5, 6, 7, 8, 9, 10] rfl, (fr.2.2.2 _ H1 hk h1 h2).2.sub [0, 1, 2, 3, 4, 5, 6, 7, 8, 9, 10] (by decide) rfl⟩) hS rfl rfl rfl rfl hl.1 rfl (Nat.le_of_ble_eq_true rfl) dX5_step_9 ⟨Nat.le_of_ble_eq_true rfl, Nat.le_of_ble_eq_true rfl⟩ (fun r_2 u_1 H locs hw hP hD hS => ?_)
    subst hw
    refine lv_icmp_lt (tgt := 25) hx hb dX5_step_12 (by decide) (fun c_12 => ?_) (fun c_12 => ?_)
    · exact absurd ⟨Int32.not_lt.mp c_1, c_12⟩ h0
    · exact thrX () rx_0 rx_1 rx_2 rx_5 hx hb htr hown (by decide +kernel) (by decide +kernel) w_0 w_1 (hE.2.2.1 (94, "there is no such finding") (by decide +kernel)) (vx_hat (fun w h => hts w (List.mem_cons_of_mem _ (List.mem_append_right _ h))) xb_nse (xK.at hE.2.2.2.2.2)) xg_nse hE hS (by rw [hml]; exact hl.1) dX5_step_15 dX5_step_18 dX5_step_19 dX5_step_21 dX5_step_24 ht (Nat.le_of_ble_eq_true rfl) (Nat.le_of_ble_eq_true rfl) (Nat.le_of_ble_eq_true rfl) (Nat.le_of_ble_eq_true rfl) hlocks hK hP hD trivial (Nat.le_of_ble_eq_true rfl) (Nat.le_of_ble_eq_true rfl)

set_option maxHeartbeats 4000000 in
set_option maxRecDepth 100000 in
theorem c_X5_step_nk (l : Launch) (htr : l.stackTraces = false) (D : va_G) (cI cJ cL : ClassId) (sz : Nat) (x : Nat) (xp : Nat) (xt : Nat) (so : Nat) (g : Nat) (sc : Nat) (fo : Nat) (sof : Int32) (gp : Nat) (gpa : Nat) (gt : Nat) (gta : Nat) (ge : Nat) (gd : Nat) (gs : Nat) (gn : Nat) (gl : Nat) (om : Nat) (on : Nat) (cnt : Nat) (op : Nat → Int32) (ot : Nat → Int32) (fe : Nat → Int32) (fd : Nat → Int32) (fs : Nat → Int32) (fn : Nat → Int32) (fl : Nat → Int32) (ss : Nat) (sr : Nat) (len : Nat) (vs : Nat → Int32) (rg : Nat → Option Nat) (LP : List Nat) (pl : Nat → Nat) (pr : Nat → Nat → Int32) (rM : Nat → Nat → Int32) (st : Nat) (en : Nat) (i : Nat) (k : Int32) (hG : gr_ok rg LP pl pr 151 301 rM) (hom : om ≤ 150) (hon : on ≤ 300) (hen : en ≤ on) (hst : st ≤ en) (hic : i < cnt) (hcnt : cnt ≤ 301) (hfe : fe i = nI en) (hfs : fs i = nI st) (hcs : sof = nI i → px_sc op ot om st en len vs ∧ len ≤ 450) (h0 : k < 0) :
    vx_Met l yX5_step wsX5_stepB { frames := 6, cells := 1, slots := 6, locals := 121 } (va_Pc [.ref x, .int (nI i), .int k] (Wx D [(cI, .int), (cJ, .array .int), (cL, .long)] ([(x, .inr (5, [.ref xp, .ref xt, .ref so, .ref g, .ref sc, .ref fo, .int sof])), (g, .inr (0, [.ref gp, .ref gt, .ref ge, .ref gd, .ref gs, .int (nI cnt), .ref gn, .ref gl])), (gp, .inr (4, [.ref gpa, .int (nI om)])), (gpa, .inl (cI, 150, .inl op)), (gt, .inr (4, [.ref gta, .int (nI on)])), (gta, .inl (cI, 300, .inl ot)), (ge, .inl (cI, 301, .inl fe)), (gd, .inl (cI, 301, .inl fd)), (gs, .inl (cI, 301, .inl fs)), (gn, .inl (cI, 151, .inl fn)), (gl, .inl (cI, 151, .inl fl)), (sc, .inr (3, [.ref ss, .int (nI len), .ref sr])), (ss, .inl (cI, 450, .inl vs)), (sr, .inl (cJ, 151, .inr (.inr (.inr (.inr rg)))))] ++ va_pl LP (gF cI pl pr)) sz))
      (fun _ _ _ _ => False) (vx_X (fun (u : Nat × (Nat → Int32) × (Nat → Nat → Int32) × (Nat → Nat → Int32)) => px_sc op ot om st en u.1 u.2.1 ∧ u.1 ≤ 450 ∧ gr_ok rg LP pl u.2.2.1 151 301 u.2.2.2 ∧ ∀ z, (∀ i, i < 151 → rg i ≠ some z) → u.2.2.1 z = pr z) (fun E u t => E = nse ∧ Wa D [(cI, .int), (cJ, .array .int), (cL, .long)] (va_A ([(x, .inr (5, [.ref xp, .ref xt, .ref so, .ref g, .ref sc, .ref fo, .int sof])), (g, .inr (0, [.ref gp, .ref gt, .ref ge, .ref gd, .ref gs, .int (nI cnt), .ref gn, .ref gl])), (gp, .inr (4, [.ref gpa, .int (nI om)])), (gpa, .inl (cI, 150, .inl op)), (gt, .inr (4, [.ref gta, .int (nI on)])), (gta, .inl (cI, 300, .inl ot)), (ge, .inl (cI, 301, .inl fe)), (gd, .inl (cI, 301, .inl fd)), (gs, .inl (cI, 301, .inl fs)), (gn, .inl (cI, 151, .inl fn)), (gl, .inl (cI, 151, .inl fl)), (sc, .inr (3, [.ref ss, .int (nI len), .ref sr])), (ss, .inl (cI, 450, .inl vs)), (sr, .inl (cJ, 151, .inr (.inr (.inr (.inr rg)))))] ++ va_pl LP (gF cI pl pr)) sz) ([(x, .inr (5, [.ref xp, .ref xt, .ref so, .ref g, .ref sc, .ref fo, .int (nI i)])), (g, .inr (0, [.ref gp, .ref gt, .ref ge, .ref gd, .ref gs, .int (nI cnt), .ref gn, .ref gl])), (gp, .inr (4, [.ref gpa, .int (nI om)])), (gpa, .inl (cI, 150, .inl op)), (gt, .inr (4, [.ref gta, .int (nI on)])), (gta, .inl (cI, 300, .inl ot)), (ge, .inl (cI, 301, .inl fe)), (gd, .inl (cI, 301, .inl fd)), (gs, .inl (cI, 301, .inl fs)), (gn, .inl (cI, 151, .inl fn)), (gl, .inl (cI, 151, .inl fl)), (sc, .inr (3, [.ref ss, .int (nI u.1), .ref sr])), (ss, .inl (cI, 450, .inl u.2.1)), (sr, .inl (cJ, 151, .inr (.inr (.inr (.inr rg)))))] ++ va_pl LP (gF cI pl u.2.2.1)) t) (va_A ([(x, .inr (5, [.ref xp, .ref xt, .ref so, .ref g, .ref sc, .ref fo, .int sof])), (g, .inr (0, [.ref gp, .ref gt, .ref ge, .ref gd, .ref gs, .int (nI cnt), .ref gn, .ref gl])), (gp, .inr (4, [.ref gpa, .int (nI om)])), (gpa, .inl (cI, 150, .inl op)), (gt, .inr (4, [.ref gta, .int (nI on)])), (gta, .inl (cI, 300, .inl ot)), (ge, .inl (cI, 301, .inl fe)), (gd, .inl (cI, 301, .inl fd)), (gs, .inl (cI, 301, .inl fs)), (gn, .inl (cI, 151, .inl fn)), (gl, .inl (cI, 151, .inl fl)), (sc, .inr (3, [.ref ss, .int (nI len), .ref sr])), (ss, .inl (cI, 450, .inl vs)), (sr, .inl (cJ, 151, .inr (.inr (.inr (.inr rg)))))] ++ va_pl LP (gF cI pl pr)) sz)) 1 6 (va_A ([(x, .inr (5, [.ref xp, .ref xt, .ref so, .ref g, .ref sc, .ref fo, .int sof])), (g, .inr (0, [.ref gp, .ref gt, .ref ge, .ref gd, .ref gs, .int (nI cnt), .ref gn, .ref gl])), (gp, .inr (4, [.ref gpa, .int (nI om)])), (gpa, .inl (cI, 150, .inl op)), (gt, .inr (4, [.ref gta, .int (nI on)])), (gta, .inl (cI, 300, .inl ot)), (ge, .inl (cI, 301, .inl fe)), (gd, .inl (cI, 301, .inl fd)), (gs, .inl (cI, 301, .inl fs)), (gn, .inl (cI, 151, .inl fn)), (gl, .inl (cI, 151, .inl fl)), (sc, .inr (3, [.ref ss, .int (nI len), .ref sr])), (ss, .inl (cI, 450, .inl vs)), (sr, .inl (cJ, 151, .inr (.inr (.inr (.inr rg)))))] ++ va_pl LP (gF cI pl pr)) sz) := by
  refine vx_ofW (cc := cX5_step) (maxL := 3) (ret := (some .int)) (by decide) rfl ?_
  intro p e s m args below meth c s₁ B hml ht hv
  obtain ⟨rfl, ⟨hsz, hP, hK, hD0⟩, hE⟩ := hv
  have hx := B.exec
  have hb := B.bytes
  have hr := B.returns
  have hts := atoms_spec (ws := wsX5_stepB) B.pre
  have hown : s.vm.findClass RX5 = some m.cls := findClass_of_methodNamed B.named
  have hlocks := B.notSynchronized
  subst hsz
  have hD := hD0.self (sz := s.heap.size)
  generalize hAe : va_A ([(x, .inr (5, [.ref xp, .ref xt, .ref so, .ref g, .ref sc, .ref fo, .int sof])), (g, .inr (0, [.ref gp, .ref gt, .ref ge, .ref gd, .ref gs, .int (nI cnt), .ref gn, .ref gl])), (gp, .inr (4, [.ref gpa, .int (nI om)])), (gpa, .inl (cI, 150, .inl op)), (gt, .inr (4, [.ref gta, .int (nI on)])), (gta, .inl (cI, 300, .inl ot)), (ge, .inl (cI, 301, .inl fe)), (gd, .inl (cI, 301, .inl fd)), (gs, .inl (cI, 301, .inl fs)), (gn, .inl (cI, 151, .inl fn)), (gl, .inl (cI, 151, .inl fl)), (sc, .inr (3, [.ref ss, .int (nI len), .ref sr])), (ss, .inl (cI, 450, .inl vs)), (sr, .inl (cJ, 151, .inr (.inr (.inr (.inr rg)))))] ++ va_pl LP (gF cI pl pr)) s.heap.size = A at hD hE ⊢
  have hA : ∀ q : Nat, s.heap.size ≤ q → A q := fun q h => by rw [← hAe]; exact Or.inr h
  have hl := lv_entry ([.ref x, .int (nI i), .int k]) (n := 3) (Nat.le_of_ble_eq_true rfl)
  rw [lg_entry_eq]
  generalize (lg_sl ([.ref x, .int (nI i), .int k]) ++ List.replicate (3 - (lg_sl ([.ref x, .int (nI i), .int k])).length) Slot.unset).toArray = ls at hl ⊢
  have hl : lv_has ls 3 [(0, .ref x), (1, .int (nI i)), (2, .int k)] := hl
  refine hv_start (A := A) (ws := ([(x, .inr (5, [.ref xp, .ref xt, .ref so, .ref g, .ref sc, .ref fo, .int sof])), (g, .inr (0, [.ref gp, .ref gt, .ref ge, .ref gd, .ref gs, .int (nI cnt), .ref gn, .ref gl])), (gp, .inr (4, [.ref gpa, .int (nI om)])), (gpa, .inl (cI, 150, .inl op)), (gt, .inr (4, [.ref gta, .int (nI on)])), (gta, .inl (cI, 300, .inl ot)), (ge, .inl (cI, 301, .inl fe)), (gd, .inl (cI, 301, .inl fd)), (gs, .inl (cI, 301, .inl fs)), (gn, .inl (cI, 151, .inl fn)), (gl, .inl (cI, 151, .inl fl)), (sc, .inr (3, [.ref ss, .int (nI len), .ref sr])), (ss, .inl (cI, 450, .inl vs)), (sr, .inl (cJ, 151, .inr (.inr (.inr (.inr rg)))))] ++ va_pl LP (gF cI pl pr))) hP (fun H locs hP hS => ?_)
  have w_0 := hts (.fieldLink RX5 31 "TextAligner" "findings" "LTextAligner$Findings;") (by decide +kernel)
  have i_X5 : ∀ w ∈ wsX50, w ∈ wsX5_stepB := by decide +kernel
  have w_2 := hts (.classLink RX5 53 nse) (by decide +kernel)
  have w_3 := hts (.initialized nse) (by decide +kernel)
  refine lv_iload_n hx hb dX5_step_0 rfl (lv_at hl 1 rfl) ?_
  refine lv_if_lt (tgt := 15) hx hb dX5_step_1 (by decide) (fun c_1 => ?_) (fun c_1 => ?_)
  · have k_1 : i < 0 := (nI_ltI (a := i) (b := 0) (by omega) (by omega)).mp c_1
    exact absurd k_1 (by omega)
  · have k_1 : ¬ (i < 0) := fun q => c_1 ((nI_ltI (a := i) (b := 0) (by omega) (by omega)).mpr q)
    refine lv_iload_n hx hb dX5_step_4 rfl (lv_at hl 1 rfl) ?_
    refine lv_aload_n hx hb dX5_step_5 rfl (lv_at hl 0 rfl) ?_
    refine va_get (D := D) (ci := 5) (v := .ref g) (C := RX5) (T := TX5) (N := 7) hx hb hts i_X5 hown hK hP 0 rfl rfl 3 (by decide) w_0 (fun _ h9 => h9) rfl dX5_step_6 ?_
    have fr := fr_q (X := [(x, .inr (5, [.ref xp, .ref xt, .ref so, .ref g, .ref sc, .ref fo, .int sof])), (g, .inr (0, [.ref gp, .ref gt, .ref ge, .ref gd, .ref gs, .int (nI cnt), .ref gn, .ref gl])), (gp, .inr (4, [.ref gpa, .int (nI om)])), (gpa, .inl (cI, 150, .inl op)), (gt, .inr (4, [.ref gta, .int (nI on)])), (gta, .inl (cI, 300, .inl ot)), (ge, .inl (cI, 301, .inl fe)), (gd, .inl (cI, 301, .inl fd)), (gs, .inl (cI, 301, .inl fs)), (gn, .inl (cI, 151, .inl fn)), (gl, .inl (cI, 151, .inl fl)), (sc, .inr (3, [.ref ss, .int (nI len), .ref sr])), (ss, .inl (cI, 450, .inl vs)), (sr, .inl (cJ, 151, .inr (.inr (.inr (.inr rg)))))]) (cx := [(g, .inr (0, [.ref gp, .ref gt, .ref ge, .ref gd, .ref gs, .int (nI cnt), .ref gn, .ref gl])), (gp, .inr (4, [.ref gpa, .int (nI om)])), (gpa, .inl (cI, 150, .inl op)), (gt, .inr (4, [.ref gta, .int (nI on)])), (gta, .inl (cI, 300, .inl ot)), (ge, .inl (cI, 301, .inl fe)), (gd, .inl (cI, 301, .inl fd)), (gs, .inl (cI, 301, .inl fs)), (gn, .inl (cI, 151, .inl fn)), (gl, .inl (cI, 151, .inl fl))]) (wr := [(x, .inr (5, [.ref xp, .ref xt, .ref so, .ref g, .ref sc, .ref fo, .int sof])), (sc, .inr (3, [.ref ss, .int (nI len), .ref sr])), (ss, .inl (cI, 450, .inl vs)), (sr, .inl (cJ, 151, .inr (.inr (.inr (.inr rg)))))]) (pl := va_pl LP (gF cI pl pr)) hP hD hS hA [1, 2, 3, 4, 5, 6, 7, 8, 9, 10] [0, 11, 12, 13] rfl rfl (by decide) (by decide) (by decide)
    refine cv_i (J := fun _ => ([(x, .inr (5, [.ref xp, .ref xt, .ref so, .ref g, .ref sc, .ref fo, .int sof])), (g, .inr (0, [.ref gp, .ref gt, .ref ge, .ref gd, .ref gs, .int (nI cnt), .ref gn, .ref gl])), (gp, .inr (4, [.ref gpa, .int (nI om)])), (gpa, .inl (cI, 150, .inl op)), (gt, .inr (4, [.ref gta, .int (nI on)])), (gta, .inl (cI, 300, .inl ot)), (ge, .inl (cI, 301, .inl fe)), (gd, .inl (cI, 301, .inl fd)), (gs, .inl (cI, 301, .inl fs)), (gn, .inl (cI, 151, .inl fn)), (gl, .inl (cI, 151, .inl fl)), (sc, .inr (3, [.ref ss, .int (nI len), .ref sr])), (ss, .inl (cI, 450, .inl vs)), (sr, .inl (cJ, 151, .inr (.inr (.inr (.inr rg)))))] ++ va_pl LP (gF cI pl pr))) (As := []) (rest := [.int (nI i)]) (q0 := 0) (ci := 0) ⟨hx, hb, hml, hown, hts⟩ (c_X0_size l D cI cJ cL H.size g gp gpa gt gta ge gd gs gn gl om on cnt op ot fe fd fs fn fl ) (cwV 0 hts gX5_stepB_X0_size rfl rfl rfl (by decide +kernel) ⟨Nat.le_of_ble_eq_true rfl, Nat.le_of_ble_eq_true rfl⟩) hK fr.1 fr.2.1 fr.2.2.1 (fun H1 u hk h1 h2 => ⟨(fr.2.2.2 _ H1 hk h1 h2).1.part [0, 4, 5, 6, 7, 8, 9, 10, 11, 12, 13, 1, 2, 3] rfl, (fr.2.2.2 _ H1 hk h1 h2).2.part [0, 4, 5, 6, 7, 8, 9, 10, 11, 12, 13, 1, 2, 3] (by decide) rfl⟩) hS rfl rfl rfl rfl hl.1 rfl (Nat.le_of_ble_eq_true rfl) dX5_step_9 ⟨Nat.le_of_ble_eq_true rfl, Nat.le_of_ble_eq_true rfl⟩ (fun r_2 u_1 H locs hw hP hD hS => ?_)
    subst hw
    refine lv_icmp_lt (tgt := 25) hx hb dX5_step_12 (by decide) (fun c_12 => ?_) (fun c_12 => ?_)
    · have k_12 : i < cnt := (nI_ltI (a := i) (b := cnt) (by omega) (by omega)).mp c_12
      refine lv_aload_n hx hb dX5_step_25 rfl (lv_at hl 0 rfl) ?_
      refine lv_iload_n hx hb dX5_step_26 rfl (lv_at hl 1 rfl) ?_
      have fr := fr_p (X := [(x, .inr (5, [.ref xp, .ref xt, .ref so, .ref g, .ref sc, .ref fo, .int sof])), (g, .inr (0, [.ref gp, .ref gt, .ref ge, .ref gd, .ref gs, .int (nI cnt), .ref gn, .ref gl])), (gp, .inr (4, [.ref gpa, .int (nI om)])), (gpa, .inl (cI, 150, .inl op)), (gt, .inr (4, [.ref gta, .int (nI on)])), (gta, .inl (cI, 300, .inl ot)), (ge, .inl (cI, 301, .inl fe)), (gd, .inl (cI, 301, .inl fd)), (gs, .inl (cI, 301, .inl fs)), (gn, .inl (cI, 151, .inl fn)), (gl, .inl (cI, 151, .inl fl)), (sc, .inr (3, [.ref ss, .int (nI len), .ref sr])), (ss, .inl (cI, 450, .inl vs)), (sr, .inl (cJ, 151, .inr (.inr (.inr (.inr rg)))))]) (cx := [(x, .inr (5, [.ref xp, .ref xt, .ref so, .ref g, .ref sc, .ref fo, .int sof])), (g, .inr (0, [.ref gp, .ref gt, .ref ge, .ref gd, .ref gs, .int (nI cnt), .ref gn, .ref gl])), (gp, .inr (4, [.ref gpa, .int (nI om)])), (gpa, .inl (cI, 150, .inl op)), (gt, .inr (4, [.ref gta, .int (nI on)])), (gta, .inl (cI, 300, .inl ot)), (ge, .inl (cI, 301, .inl fe)), (gd, .inl (cI, 301, .inl fd)), (gs, .inl (cI, 301, .inl fs)), (gn, .inl (cI, 151, .inl fn)), (gl, .inl (cI, 151, .inl fl)), (sc, .inr (3, [.ref ss, .int (nI len), .ref sr])), (ss, .inl (cI, 450, .inl vs)), (sr, .inl (cJ, 151, .inr (.inr (.inr (.inr rg)))))]) (wr := []) (pl := va_pl LP (gF cI pl pr)) hP hD hS hA [0, 1, 2, 3, 4, 5, 6, 7, 8, 9, 10, 11, 12, 13] [] rfl rfl (by decide) (by decide) (by decide)
      refine cv_v (J := fun u => ([(x, .inr (5, [.ref xp, .ref xt, .ref so, .ref g, .ref sc, .ref fo, .int (nI i)])), (g, .inr (0, [.ref gp, .ref gt, .ref ge, .ref gd, .ref gs, .int (nI cnt), .ref gn, .ref gl])), (gp, .inr (4, [.ref gpa, .int (nI om)])), (gpa, .inl (cI, 150, .inl op)), (gt, .inr (4, [.ref gta, .int (nI on)])), (gta, .inl (cI, 300, .inl ot)), (ge, .inl (cI, 301, .inl fe)), (gd, .inl (cI, 301, .inl fd)), (gs, .inl (cI, 301, .inl fs)), (gn, .inl (cI, 151, .inl fn)), (gl, .inl (cI, 151, .inl fl)), (sc, .inr (3, [.ref ss, .int (nI u.1), .ref sr])), (ss, .inl (cI, 450, .inl u.2.1)), (sr, .inl (cJ, 151, .inr (.inr (.inr (.inr rg)))))] ++ va_pl LP (gF cI pl u.2.2.1))) (As := [.int (nI i)]) (rest := []) (q0 := 0) (ci := 5) ⟨hx, hb, hml, hown, hts⟩ (c_X5_writeScriptOf l D cI cJ cL H.size x xp xt so g sc fo sof gp gpa gt gta ge gd gs gn gl om on cnt op ot fe fd fs fn fl ss sr len vs rg LP pl pr rM st en i hG hom hon hen hst (by omega) hfe hfs hcs) (cwV 1 hts gX5_stepB_X5_writeScriptOf rfl rfl rfl (by decide +kernel) ⟨Nat.le_of_ble_eq_true rfl, Nat.le_of_ble_eq_true rfl⟩) hK fr.1 fr.2.1 fr.2.2.1 (fun H1 u hk h1 h2 => ⟨(fr.2.2.2 _ _ H1 hk h1 h2).1.part [0, 1, 2, 3, 4, 5, 6, 7, 8, 9, 10, 11, 12, 13] rfl, (fr.2.2.2 _ _ H1 hk h1 h2).2.part [0, 1, 2, 3, 4, 5, 6, 7, 8, 9, 10, 11, 12, 13] (by decide) rfl⟩) hS rfl rfl rfl rfl hl.1 rfl (Nat.le_of_ble_eq_true rfl) dX5_step_27 ⟨Nat.le_of_ble_eq_true rfl, Nat.le_of_ble_eq_true rfl⟩ (fun u_3 H locs hw hP hD hS => ?_)
      obtain ⟨hq1, hq2, hq3, hq4⟩ := hw
      refine lv_iload_n hx hb dX5_step_30 rfl (lv_at hl 2 rfl) ?_
      refine lv_if_lt (tgt := 45) hx hb dX5_step_31 (by decide) (fun c_31 => ?_) (fun c_31 => ?_)
      · exact thrX u_3 rx_0 rx_1 rx_2 rx_5 hx hb htr hown (by decide +kernel) (by decide +kernel) w_2 w_3 (hE.2.2.1 (113, "there is no such step") (by decide +kernel)) (vx_hat (fun w h => hts w (List.mem_cons_of_mem _ (List.mem_append_right _ h))) xb_nse (xK.at hE.2.2.2.2.2)) xg_nse hE hS (by rw [hml]; exact hl.1) dX5_step_45 dX5_step_48 dX5_step_49 dX5_step_51 dX5_step_54 ht (Nat.le_of_ble_eq_true rfl) (Nat.le_of_ble_eq_true rfl) (Nat.le_of_ble_eq_true rfl) (Nat.le_of_ble_eq_true rfl) hlocks hK hP hD ⟨hq1, hq2, hq3, hq4⟩ (Nat.le_of_ble_eq_true rfl) (Nat.le_of_ble_eq_true rfl)
      · exact absurd h0 c_31
    · have k_12 : ¬ (i < cnt) := fun q => c_12 ((nI_ltI (a := i) (b := cnt) (by omega) (by omega)).mpr q)
      exact absurd k_12 (by omega)

set_option maxHeartbeats 4000000 in
set_option maxRecDepth 100000 in
theorem c_X5_step_nl (l : Launch) (htr : l.stackTraces = false) (D : va_G) (cI cJ cL : ClassId) (sz : Nat) (x : Nat) (xp : Nat) (xt : Nat) (so : Nat) (g : Nat) (sc : Nat) (fo : Nat) (sof : Int32) (gp : Nat) (gpa : Nat) (gt : Nat) (gta : Nat) (ge : Nat) (gd : Nat) (gs : Nat) (gn : Nat) (gl : Nat) (om : Nat) (on : Nat) (cnt : Nat) (op : Nat → Int32) (ot : Nat → Int32) (fe : Nat → Int32) (fd : Nat → Int32) (fs : Nat → Int32) (fn : Nat → Int32) (fl : Nat → Int32) (ss : Nat) (sr : Nat) (len : Nat) (vs : Nat → Int32) (rg : Nat → Option Nat) (LP : List Nat) (pl : Nat → Nat) (pr : Nat → Nat → Int32) (rM : Nat → Nat → Int32) (st : Nat) (en : Nat) (i : Nat) (kk : Nat) (L : Nat) (f9 : Nat → Int32) (hG : gr_ok rg LP pl pr 151 301 rM) (hom : om ≤ 150) (hon : on ≤ 300) (hen : en ≤ on) (hst : st ≤ en) (hic : i < cnt) (hcnt : cnt ≤ 301) (hfe : fe i = nI en) (hfs : fs i = nI st) (hcs : sof = nI i → px_sc op ot om st en len vs ∧ len ≤ 450) (hL : px_sc op ot om st en L f9) (hL4 : L ≤ 450) (hkk : L ≤ kk) (hkk2 : kk < 2147483648) :
    vx_Met l yX5_step wsX5_stepB { frames := 6, cells := 1, slots := 6, locals := 121 } (va_Pc [.ref x, .int (nI i), .int (nI kk)] (Wx D [(cI, .int), (cJ, .array .int), (cL, .long)] ([(x, .inr (5, [.ref xp, .ref xt, .ref so, .ref g, .ref sc, .ref fo, .int sof])), (g, .inr (0, [.ref gp, .ref gt, .ref ge, .ref gd, .ref gs, .int (nI cnt), .ref gn, .ref gl])), (gp, .inr (4, [.ref gpa, .int (nI om)])), (gpa, .inl (cI, 150, .inl op)), (gt, .inr (4, [.ref gta, .int (nI on)])), (gta, .inl (cI, 300, .inl ot)), (ge, .inl (cI, 301, .inl fe)), (gd, .inl (cI, 301, .inl fd)), (gs, .inl (cI, 301, .inl fs)), (gn, .inl (cI, 151, .inl fn)), (gl, .inl (cI, 151, .inl fl)), (sc, .inr (3, [.ref ss, .int (nI len), .ref sr])), (ss, .inl (cI, 450, .inl vs)), (sr, .inl (cJ, 151, .inr (.inr (.inr (.inr rg)))))] ++ va_pl LP (gF cI pl pr)) sz))
      (fun _ _ _ _ => False) (vx_X (fun (u : Nat × (Nat → Int32) × (Nat → Nat → Int32) × (Nat → Nat → Int32)) => px_sc op ot om st en u.1 u.2.1 ∧ u.1 ≤ 450 ∧ gr_ok rg LP pl u.2.2.1 151 301 u.2.2.2 ∧ ∀ z, (∀ i, i < 151 → rg i ≠ some z) → u.2.2.1 z = pr z) (fun E u t => E = nse ∧ Wa D [(cI, .int), (cJ, .array .int), (cL, .long)] (va_A ([(x, .inr (5, [.ref xp, .ref xt, .ref so, .ref g, .ref sc, .ref fo, .int sof])), (g, .inr (0, [.ref gp, .ref gt, .ref ge, .ref gd, .ref gs, .int (nI cnt), .ref gn, .ref gl])), (gp, .inr (4, [.ref gpa, .int (nI om)])), (gpa, .inl (cI, 150, .inl op)), (gt, .inr (4, [.ref gta, .int (nI on)])), (gta, .inl (cI, 300, .inl ot)), (ge, .inl (cI, 301, .inl fe)), (gd, .inl (cI, 301, .inl fd)), (gs, .inl (cI, 301, .inl fs)), (gn, .inl (cI, 151, .inl fn)), (gl, .inl (cI, 151, .inl fl)), (sc, .inr (3, [.ref ss, .int (nI len), .ref sr])), (ss, .inl (cI, 450, .inl vs)), (sr, .inl (cJ, 151, .inr (.inr (.inr (.inr rg)))))] ++ va_pl LP (gF cI pl pr)) sz) ([(x, .inr (5, [.ref xp, .ref xt, .ref so, .ref g, .ref sc, .ref fo, .int (nI i)])), (g, .inr (0, [.ref gp, .ref gt, .ref ge, .ref gd, .ref gs, .int (nI cnt), .ref gn, .ref gl])), (gp, .inr (4, [.ref gpa, .int (nI om)])), (gpa, .inl (cI, 150, .inl op)), (gt, .inr (4, [.ref gta, .int (nI on)])), (gta, .inl (cI, 300, .inl ot)), (ge, .inl (cI, 301, .inl fe)), (gd, .inl (cI, 301, .inl fd)), (gs, .inl (cI, 301, .inl fs)), (gn, .inl (cI, 151, .inl fn)), (gl, .inl (cI, 151, .inl fl)), (sc, .inr (3, [.ref ss, .int (nI u.1), .ref sr])), (ss, .inl (cI, 450, .inl u.2.1)), (sr, .inl (cJ, 151, .inr (.inr (.inr (.inr rg)))))] ++ va_pl LP (gF cI pl u.2.2.1)) t) (va_A ([(x, .inr (5, [.ref xp, .ref xt, .ref so, .ref g, .ref sc, .ref fo, .int sof])), (g, .inr (0, [.ref gp, .ref gt, .ref ge, .ref gd, .ref gs, .int (nI cnt), .ref gn, .ref gl])), (gp, .inr (4, [.ref gpa, .int (nI om)])), (gpa, .inl (cI, 150, .inl op)), (gt, .inr (4, [.ref gta, .int (nI on)])), (gta, .inl (cI, 300, .inl ot)), (ge, .inl (cI, 301, .inl fe)), (gd, .inl (cI, 301, .inl fd)), (gs, .inl (cI, 301, .inl fs)), (gn, .inl (cI, 151, .inl fn)), (gl, .inl (cI, 151, .inl fl)), (sc, .inr (3, [.ref ss, .int (nI len), .ref sr])), (ss, .inl (cI, 450, .inl vs)), (sr, .inl (cJ, 151, .inr (.inr (.inr (.inr rg)))))] ++ va_pl LP (gF cI pl pr)) sz)) 1 6 (va_A ([(x, .inr (5, [.ref xp, .ref xt, .ref so, .ref g, .ref sc, .ref fo, .int sof])), (g, .inr (0, [.ref gp, .ref gt, .ref ge, .ref gd, .ref gs, .int (nI cnt), .ref gn, .ref gl])), (gp, .inr (4, [.ref gpa, .int (nI om)])), (gpa, .inl (cI, 150, .inl op)), (gt, .inr (4, [.ref gta, .int (nI on)])), (gta, .inl (cI, 300, .inl ot)), (ge, .inl (cI, 301, .inl fe)), (gd, .inl (cI, 301, .inl fd)), (gs, .inl (cI, 301, .inl fs)), (gn, .inl (cI, 151, .inl fn)), (gl, .inl (cI, 151, .inl fl)), (sc, .inr (3, [.ref ss, .int (nI len), .ref sr])), (ss, .inl (cI, 450, .inl vs)), (sr, .inl (cJ, 151, .inr (.inr (.inr (.inr rg)))))] ++ va_pl LP (gF cI pl pr)) sz) := by
  refine vx_ofW (cc := cX5_step) (maxL := 3) (ret := (some .int)) (by decide) rfl ?_
  intro p e s m args below meth c s₁ B hml ht hv
  obtain ⟨rfl, ⟨hsz, hP, hK, hD0⟩, hE⟩ := hv
  have hx := B.exec
  have hb := B.bytes
  have hr := B.returns
  have hts := atoms_spec (ws := wsX5_stepB) B.pre
  have hown : s.vm.findClass RX5 = some m.cls := findClass_of_methodNamed B.named
  have hlocks := B.notSynchronized
  subst hsz
  have hD := hD0.self (sz := s.heap.size)
  generalize hAe : va_A ([(x, .inr (5, [.ref xp, .ref xt, .ref so, .ref g, .ref sc, .ref fo, .int sof])), (g, .inr (0, [.ref gp, .ref gt, .ref ge, .ref gd, .ref gs, .int (nI cnt), .ref gn, .ref gl])), (gp, .inr (4, [.ref gpa, .int (nI om)])), (gpa, .inl (cI, 150, .inl op)), (gt, .inr (4, [.ref gta, .int (nI on)])), (gta, .inl (cI, 300, .inl ot)), (ge, .inl (cI, 301, .inl fe)), (gd, .inl (cI, 301, .inl fd)), (gs, .inl (cI, 301, .inl fs)), (gn, .inl (cI, 151, .inl fn)), (gl, .inl (cI, 151, .inl fl)), (sc, .inr (3, [.ref ss, .int (nI len), .ref sr])), (ss, .inl (cI, 450, .inl vs)), (sr, .inl (cJ, 151, .inr (.inr (.inr (.inr rg)))))] ++ va_pl LP (gF cI pl pr)) s.heap.size = A at hD hE ⊢
  have hA : ∀ q : Nat, s.heap.size ≤ q → A q := fun q h => by rw [← hAe]; exact Or.inr h
  have hl := lv_entry ([.ref x, .int (nI i), .int (nI kk)]) (n := 3) (Nat.le_of_ble_eq_true rfl)
  rw [lg_entry_eq]
  generalize (lg_sl ([.ref x, .int (nI i), .int (nI kk)]) ++ List.replicate (3 - (lg_sl ([.ref x, .int (nI i), .int (nI kk)])).length) Slot.unset).toArray = ls at hl ⊢
  have hl : lv_has ls 3 [(0, .ref x), (1, .int (nI i)), (2, .int (nI kk))] := hl
  refine hv_start (A := A) (ws := ([(x, .inr (5, [.ref xp, .ref xt, .ref so, .ref g, .ref sc, .ref fo, .int sof])), (g, .inr (0, [.ref gp, .ref gt, .ref ge, .ref gd, .ref gs, .int (nI cnt), .ref gn, .ref gl])), (gp, .inr (4, [.ref gpa, .int (nI om)])), (gpa, .inl (cI, 150, .inl op)), (gt, .inr (4, [.ref gta, .int (nI on)])), (gta, .inl (cI, 300, .inl ot)), (ge, .inl (cI, 301, .inl fe)), (gd, .inl (cI, 301, .inl fd)), (gs, .inl (cI, 301, .inl fs)), (gn, .inl (cI, 151, .inl fn)), (gl, .inl (cI, 151, .inl fl)), (sc, .inr (3, [.ref ss, .int (nI len), .ref sr])), (ss, .inl (cI, 450, .inl vs)), (sr, .inl (cJ, 151, .inr (.inr (.inr (.inr rg)))))] ++ va_pl LP (gF cI pl pr))) hP (fun H locs hP hS => ?_)
  have w_0 := hts (.fieldLink RX5 31 "TextAligner" "findings" "LTextAligner$Findings;") (by decide +kernel)
  have i_X5 : ∀ w ∈ wsX50, w ∈ wsX5_stepB := by decide +kernel
  have w_2 := hts (.fieldLink RX5 38 "TextAligner" "script" "LTextAligner$Script;") (by decide +kernel)
  have w_3 := hts (.classLink RX5 53 nse) (by decide +kernel)
  have w_4 := hts (.initialized nse) (by decide +kernel)
  refine lv_iload_n hx hb dX5_step_0 rfl (lv_at hl 1 rfl) ?_
  refine lv_if_lt (tgt := 15) hx hb dX5_step_1 (by decide) (fun c_1 => ?_) (fun c_1 => ?_)
  · have k_1 : i < 0 := (nI_ltI (a := i) (b := 0) (by omega) (by omega)).mp c_1
    exact absurd k_1 (by omega)
  · have k_1 : ¬ (i < 0) := fun q => c_1 ((nI_ltI (a := i) (b := 0) (by omega) (by omega)).mpr q)
    refine lv_iload_n hx hb dX5_step_4 rfl (lv_at hl 1 rfl) ?_
    refine lv_aload_n hx hb dX5_step_5 rfl (lv_at hl 0 rfl) ?_
    refine va_get (D := D) (ci := 5) (v := .ref g) (C := RX5) (T := TX5) (N := 7) hx hb hts i_X5 hown hK hP 0 rfl rfl 3 (by decide) w_0 (fun _ h9 => h9) rfl dX5_step_6 ?_
    have fr := fr_q (X := [(x, .inr (5, [.ref xp, .ref xt, .ref so, .ref g, .ref sc, .ref fo, .int sof])), (g, .inr (0, [.ref gp, .ref gt, .ref ge, .ref gd, .ref gs, .int (nI cnt), .ref gn, .ref gl])), (gp, .inr (4, [.ref gpa, .int (nI om)])), (gpa, .inl (cI, 150, .inl op)), (gt, .inr (4, [.ref gta, .int (nI on)])), (gta, .inl (cI, 300, .inl ot)), (ge, .inl (cI, 301, .inl fe)), (gd, .inl (cI, 301, .inl fd)), (gs, .inl (cI, 301, .inl fs)), (gn, .inl (cI, 151, .inl fn)), (gl, .inl (cI, 151, .inl fl)), (sc, .inr (3, [.ref ss, .int (nI len), .ref sr])), (ss, .inl (cI, 450, .inl vs)), (sr, .inl (cJ, 151, .inr (.inr (.inr (.inr rg)))))]) (cx := [(g, .inr (0, [.ref gp, .ref gt, .ref ge, .ref gd, .ref gs, .int (nI cnt), .ref gn, .ref gl])), (gp, .inr (4, [.ref gpa, .int (nI om)])), (gpa, .inl (cI, 150, .inl op)), (gt, .inr (4, [.ref gta, .int (nI on)])), (gta, .inl (cI, 300, .inl ot)), (ge, .inl (cI, 301, .inl fe)), (gd, .inl (cI, 301, .inl fd)), (gs, .inl (cI, 301, .inl fs)), (gn, .inl (cI, 151, .inl fn)), (gl, .inl (cI, 151, .inl fl))]) (wr := [(x, .inr (5, [.ref xp, .ref xt, .ref so, .ref g, .ref sc, .ref fo, .int sof])), (sc, .inr (3, [.ref ss, .int (nI len), .ref sr])), (ss, .inl (cI, 450, .inl vs)), (sr, .inl (cJ, 151, .inr (.inr (.inr (.inr rg)))))]) (pl := va_pl LP (gF cI pl pr)) hP hD hS hA [1, 2, 3, 4, 5, 6, 7, 8, 9, 10] [0, 11, 12, 13] rfl rfl (by decide) (by decide) (by decide)
    refine cv_i (J := fun _ => ([(x, .inr (5, [.ref xp, .ref xt, .ref so, .ref g, .ref sc, .ref fo, .int sof])), (g, .inr (0, [.ref gp, .ref gt, .ref ge, .ref gd, .ref gs, .int (nI cnt), .ref gn, .ref gl])), (gp, .inr (4, [.ref gpa, .int (nI om)])), (gpa, .inl (cI, 150, .inl op)), (gt, .inr (4, [.ref gta, .int (nI on)])), (gta, .inl (cI, 300, .inl ot)), (ge, .inl (cI, 301, .inl fe)), (gd, .inl (cI, 301, .inl fd)), (gs, .inl (cI, 301, .inl fs)), (gn, .inl (cI, 151, .inl fn)), (gl, .inl (cI, 151, .inl fl)), (sc, .inr (3, [.ref ss, .int (nI len), .ref sr])), (ss, .inl (cI, 450, .inl vs)), (sr, .inl (cJ, 151, .inr (.inr (.inr (.inr rg)))))] ++ va_pl LP (gF cI pl pr))) (As := []) (rest := [.int (nI i)]) (q0 := 0) (ci := 0) ⟨hx, hb, hml, hown, hts⟩ (c_X0_size l D cI cJ cL H.size g gp gpa gt gta ge gd gs gn gl om on cnt op ot fe fd fs fn fl ) (cwV 0 hts gX5_stepB_X0_size rfl rfl rfl (by decide +kernel) ⟨Nat.le_of_ble_eq_true rfl, Nat.le_of_ble_eq_true rfl⟩) hK fr.1 fr.2.1 fr.2.2.1 (fun H1 u hk h1 h2 => ⟨(fr.2.2.2 _ H1 hk h1 h2).1.part [0, 4, 5, 6, 7, 8, 9, 10, 11, 12, 13, 1, 2, 3] rfl, (fr.2.2.2 _ H1 hk h1 h2).2.part [0, 4, 5, 6, 7, 8, 9, 10, 11, 12, 13, 1, 2, 3] (by decide) rfl⟩) hS rfl rfl rfl rfl hl.1 rfl (Nat.le_of_ble_eq_true rfl) dX5_step_9 ⟨Nat.le_of_ble_eq_true rfl, Nat.le_of_ble_eq_true rfl⟩ (fun r_2 u_1 H locs hw hP hD hS => ?_)
    subst hw
    refine lv_icmp_lt (tgt := 25) hx hb dX5_step_12 (by decide) (fun c_12 => ?_) (fun c_12 => ?_)
    · have k_12 : i < cnt := (nI_ltI (a := i) (b := cnt) (by omega) (by omega)).mp c_12
      refine lv_aload_n hx hb dX5_step_25 rfl (lv_at hl 0 rfl) ?_
      refine lv_iload_n hx hb dX5_step_26 rfl (lv_at hl 1 rfl) ?_
      have fr := fr_p (X := [(x, .inr (5, [.ref xp, .ref xt, .ref so, .ref g, .ref sc, .ref fo, .int sof])), (g, .inr (0, [.ref gp, .ref gt, .ref ge, .ref gd, .ref gs, .int (nI cnt), .ref gn, .ref gl])), (gp, .inr (4, [.ref gpa, .int (nI om)])), (gpa, .inl (cI, 150, .inl op)), (gt, .inr (4, [.ref gta, .int (nI on)])), (gta, .inl (cI, 300, .inl ot)), (ge, .inl (cI, 301, .inl fe)), (gd, .inl (cI, 301, .inl fd)), (gs, .inl (cI, 301, .inl fs)), (gn, .inl (cI, 151, .inl fn)), (gl, .inl (cI, 151, .inl fl)), (sc, .inr (3, [.ref ss, .int (nI len), .ref sr])), (ss, .inl (cI, 450, .inl vs)), (sr, .inl (cJ, 151, .inr (.inr (.inr (.inr rg)))))]) (cx := [(x, .inr (5, [.ref xp, .ref xt, .ref so, .ref g, .ref sc, .ref fo, .int sof])), (g, .inr (0, [.ref gp, .ref gt, .ref ge, .ref gd, .ref gs, .int (nI cnt), .ref gn, .ref gl])), (gp, .inr (4, [.ref gpa, .int (nI om)])), (gpa, .inl (cI, 150, .inl op)), (gt, .inr (4, [.ref gta, .int (nI on)])), (gta, .inl (cI, 300, .inl ot)), (ge, .inl (cI, 301, .inl fe)), (gd, .inl (cI, 301, .inl fd)), (gs, .inl (cI, 301, .inl fs)), (gn, .inl (cI, 151, .inl fn)), (gl, .inl (cI, 151, .inl fl)), (sc, .inr (3, [.ref ss, .int (nI len), .ref sr])), (ss, .inl (cI, 450, .inl vs)), (sr, .inl (cJ, 151, .inr (.inr (.inr (.inr rg)))))]) (wr := []) (pl := va_pl LP (gF cI pl pr)) hP hD hS hA [0, 1, 2, 3, 4, 5, 6, 7, 8, 9, 10, 11, 12, 13] [] rfl rfl (by decide) (by decide) (by decide)
      refine cv_v (J := fun u => ([(x, .inr (5, [.ref xp, .ref xt, .ref so, .ref g, .ref sc, .ref fo, .int (nI i)])), (g, .inr (0, [.ref gp, .ref gt, .ref ge, .ref gd, .ref gs, .int (nI cnt), .ref gn, .ref gl])), (gp, .inr (4, [.ref gpa, .int (nI om)])), (gpa, .inl (cI, 150, .inl op)), (gt, .inr (4, [.ref gta, .int (nI on)])), (gta, .inl (cI, 300, .inl ot)), (ge, .inl (cI, 301, .inl fe)), (gd, .inl (cI, 301, .inl fd)), (gs, .inl (cI, 301, .inl fs)), (gn, .inl (cI, 151, .inl fn)), (gl, .inl (cI, 151, .inl fl)), (sc, .inr (3, [.ref ss, .int (nI u.1), .ref sr])), (ss, .inl (cI, 450, .inl u.2.1)), (sr, .inl (cJ, 151, .inr (.inr (.inr (.inr rg)))))] ++ va_pl LP (gF cI pl u.2.2.1))) (As := [.int (nI i)]) (rest := []) (q0 := 0) (ci := 5) ⟨hx, hb, hml, hown, hts⟩ (c_X5_writeScriptOf l D cI cJ cL H.size x xp xt so g sc fo sof gp gpa gt gta ge gd gs gn gl om on cnt op ot fe fd fs fn fl ss sr len vs rg LP pl pr rM st en i hG hom hon hen hst (by omega) hfe hfs hcs) (cwV 1 hts gX5_stepB_X5_writeScriptOf rfl rfl rfl (by decide +kernel) ⟨Nat.le_of_ble_eq_true rfl, Nat.le_of_ble_eq_true rfl⟩) hK fr.1 fr.2.1 fr.2.2.1 (fun H1 u hk h1 h2 => ⟨(fr.2.2.2 _ _ H1 hk h1 h2).1.part [0, 1, 2, 3, 4, 5, 6, 7, 8, 9, 10, 11, 12, 13] rfl, (fr.2.2.2 _ _ H1 hk h1 h2).2.part [0, 1, 2, 3, 4, 5, 6, 7, 8, 9, 10, 11, 12, 13] (by decide) rfl⟩) hS rfl rfl rfl rfl hl.1 rfl (Nat.le_of_ble_eq_true rfl) dX5_step_27 ⟨Nat.le_of_ble_eq_true rfl, Nat.le_of_ble_eq_true rfl⟩ (fun u_3 H locs hw hP hD hS => ?_)
      obtain ⟨hq1, hq2, hq3, hq4⟩ := hw
      have hone := px_sc_one hL hq1
      have hLu := hone.1
      refine lv_iload_n hx hb dX5_step_30 rfl (lv_at hl 2 rfl) ?_
      refine lv_if_lt (tgt := 45) hx hb dX5_step_31 (by decide) (fun c_31 => ?_) (fun c_31 => ?_)
      · have k_31 : kk < 0 := (nI_ltI (a := kk) (b := 0) (by omega) (by omega)).mp c_31
        exact absurd k_31 (by omega)
      · have k_31 : ¬ (kk < 0) := fun q => c_31 ((nI_ltI (a := kk) (b := 0) (by omega) (by omega)).mpr q)
        refine lv_iload_n hx hb dX5_step_34 rfl (lv_at hl 2 rfl) ?_
        refine lv_aload_n hx hb dX5_step_35 rfl (lv_at hl 0 rfl) ?_
        refine va_get (D := D) (ci := 5) (v := .ref sc) (C := RX5) (T := TX5) (N := 7) hx hb hts i_X5 hown hK hP 0 rfl rfl 4 (by decide) w_2 (fun _ h9 => h9) rfl dX5_step_36 ?_
        have fr := fr_q (X := [(x, .inr (5, [.ref xp, .ref xt, .ref so, .ref g, .ref sc, .ref fo, .int (nI i)])), (g, .inr (0, [.ref gp, .ref gt, .ref ge, .ref gd, .ref gs, .int (nI cnt), .ref gn, .ref gl])), (gp, .inr (4, [.ref gpa, .int (nI om)])), (gpa, .inl (cI, 150, .inl op)), (gt, .inr (4, [.ref gta, .int (nI on)])), (gta, .inl (cI, 300, .inl ot)), (ge, .inl (cI, 301, .inl fe)), (gd, .inl (cI, 301, .inl fd)), (gs, .inl (cI, 301, .inl fs)), (gn, .inl (cI, 151, .inl fn)), (gl, .inl (cI, 151, .inl fl)), (sc, .inr (3, [.ref ss, .int (nI u_3.1), .ref sr])), (ss, .inl (cI, 450, .inl u_3.2.1)), (sr, .inl (cJ, 151, .inr (.inr (.inr (.inr rg)))))]) (cx := [(sc, .inr (3, [.ref ss, .int (nI u_3.1), .ref sr])), (ss, .inl (cI, 450, .inl u_3.2.1)), (sr, .inl (cJ, 151, .inr (.inr (.inr (.inr rg)))))]) (wr := [(x, .inr (5, [.ref xp, .ref xt, .ref so, .ref g, .ref sc, .ref fo, .int (nI i)])), (g, .inr (0, [.ref gp, .ref gt, .ref ge, .ref gd, .ref gs, .int (nI cnt), .ref gn, .ref gl])), (gp, .inr (4, [.ref gpa, .int (nI om)])), (gpa, .inl (cI, 150, .inl op)), (gt, .inr (4, [.ref gta, .int (nI on)])), (gta, .inl (cI, 300, .inl ot)), (ge, .inl (cI, 301, .inl fe)), (gd, .inl (cI, 301, .inl fd)), (gs, .inl (cI, 301, .inl fs)), (gn, .inl (cI, 151, .inl fn)), (gl, .inl (cI, 151, .inl fl))]) (pl := va_pl LP (gF cI pl u_3.2.2.1)) hP hD hS hA [11, 12, 13] [0, 1, 2, 3, 4, 5, 6, 7, 8, 9, 10] rfl rfl (by decide) (by decide) (by decide)
        refine cv_i (J := fun _ => ([(x, .inr (5, [.ref xp, .ref xt, .ref so, .ref g, .ref sc, .ref fo, .int (nI i)])), (g, .inr (0, [.ref gp, .ref gt, .ref ge, .ref gd, .ref gs, .int (nI cnt), .ref gn, .ref gl])), (gp, .inr (4, [.ref gpa, .int (nI om)])), (gpa, .inl (cI, 150, .inl op)), (gt, .inr (4, [.ref gta, .int (nI on)])), (gta, .inl (cI, 300, .inl ot)), (ge, .inl (cI, 301, .inl fe)), (gd, .inl (cI, 301, .inl fd)), (gs, .inl (cI, 301, .inl fs)), (gn, .inl (cI, 151, .inl fn)), (gl, .inl (cI, 151, .inl fl)), (sc, .inr (3, [.ref ss, .int (nI u_3.1), .ref sr])), (ss, .inl (cI, 450, .inl u_3.2.1)), (sr, .inl (cJ, 151, .inr (.inr (.inr (.inr rg)))))] ++ va_pl LP (gF cI pl u_3.2.2.1))) (As := []) (rest := [.int (nI kk)]) (q0 := 0) (ci := 3) ⟨hx, hb, hml, hown, hts⟩ (c_X3_length l D cI cJ cL H.size sc ss sr u_3.1 u_3.2.1 rg ) (cwV 0 hts gX5_stepB_X3_length rfl rfl rfl (by decide +kernel) ⟨Nat.le_of_ble_eq_true rfl, Nat.le_of_ble_eq_true rfl⟩) hK fr.1 fr.2.1 fr.2.2.1 (fun H1 u hk h1 h2 => ⟨(fr.2.2.2 _ H1 hk h1 h2).1.part [0, 1, 2, 3, 4, 5, 6, 7, 8, 9, 10, 11, 12, 13] rfl, (fr.2.2.2 _ H1 hk h1 h2).2.part [0, 1, 2, 3, 4, 5, 6, 7, 8, 9, 10, 11, 12, 13] (by decide) rfl⟩) hS rfl rfl rfl rfl hl.1 rfl (Nat.le_of_ble_eq_true rfl) dX5_step_39 ⟨Nat.le_of_ble_eq_true rfl, Nat.le_of_ble_eq_true rfl⟩ (fun r_6 u_5 H locs hw hP hD hS => ?_)
        subst hw
        refine lv_icmp_lt (tgt := 55) hx hb dX5_step_42 (by decide) (fun c_42 => ?_) (fun c_42 => ?_)
        · have k_42 : kk < u_3.1 := (nI_ltI (a := kk) (b := u_3.1) (by omega) (by omega)).mp c_42
          exact absurd k_42 (by omega)
        · have k_42 : ¬ (kk < u_3.1) := fun q => c_42 ((nI_ltI (a := kk) (b := u_3.1) (by omega) (by omega)).mpr q)
          exact thrX u_3 rx_0 rx_1 rx_2 rx_5 hx hb htr hown (by decide +kernel) (by decide +kernel) w_3 w_4 (hE.2.2.1 (113, "there is no such step") (by decide +kernel)) (vx_hat (fun w h => hts w (List.mem_cons_of_mem _ (List.mem_append_right _ h))) xb_nse (xK.at hE.2.2.2.2.2)) xg_nse hE hS (by rw [hml]; exact hl.1) dX5_step_45 dX5_step_48 dX5_step_49 dX5_step_51 dX5_step_54 ht (Nat.le_of_ble_eq_true rfl) (Nat.le_of_ble_eq_true rfl) (Nat.le_of_ble_eq_true rfl) (Nat.le_of_ble_eq_true rfl) hlocks hK hP hD ⟨hq1, hq2, hq3, hq4⟩ (Nat.le_of_ble_eq_true rfl) (Nat.le_of_ble_eq_true rfl)
    · have k_12 : ¬ (i < cnt) := fun q => c_12 ((nI_ltI (a := i) (b := cnt) (by omega) (by omega)).mpr q)
      exact absurd k_12 (by omega)

set_option maxHeartbeats 4000000 in
set_option maxRecDepth 100000 in
theorem c_X5_score_nk (l : Launch) (htr : l.stackTraces = false) (D : va_G) (cI cJ cL : ClassId) (sz : Nat) (x : Nat) (xp : Nat) (xt : Nat) (so : Nat) (g : Nat) (sc : Nat) (fo : Nat) (sof : Int32) (one : Int32) (other : Int32) (v : Int32) (h0 : ¬ (0 ≤ one ∧ one < 8 ∧ 0 ≤ other ∧ other < 8)) :
    vx_Met l yX5_score wsX5_scoreB { frames := 6, cells := 1, slots := 6, locals := 90 } (va_Pc [.ref x, .int one, .int other, .int v] (Wx D [(cI, .int), (cJ, .array .int), (cL, .long)] [(x, .inr (5, [.ref xp, .ref xt, .ref so, .ref g, .ref sc, .ref fo, .int sof]))] sz))
      (fun _ _ _ _ => False) (vx_X (fun (_ : Unit) => True) (fun E _ t => E = nse ∧ Wa D [(cI, .int), (cJ, .array .int), (cL, .long)] (va_A [(x, .inr (5, [.ref xp, .ref xt, .ref so, .ref g, .ref sc, .ref fo, .int sof]))] sz) [(x, .inr (5, [.ref xp, .ref xt, .ref so, .ref g, .ref sc, .ref fo, .int sof]))] t) (va_A [(x, .inr (5, [.ref xp, .ref xt, .ref so, .ref g, .ref sc, .ref fo, .int sof]))] sz)) 1 6 (va_A [(x, .inr (5, [.ref xp, .ref xt, .ref so, .ref g, .ref sc, .ref fo, .int sof]))] sz) := by
  refine vx_ofW (cc := cX5_score) (maxL := 5) (ret := (some .int)) (by decide) rfl ?_
  intro p e s m args below meth c s₁ B hml ht hv
  obtain ⟨rfl, ⟨hsz, hP, hK, hD0⟩, hE⟩ := hv
  have hx := B.exec
  have hb := B.bytes
  have hr := B.returns
  have hts := atoms_spec (ws := wsX5_scoreB) B.pre
  have hown : s.vm.findClass RX5 = some m.cls := findClass_of_methodNamed B.named
  have hlocks := B.notSynchronized
  subst hsz
  have hD := hD0.self (sz := s.heap.size)
  generalize hAe : va_A [(x, .inr (5, [.ref xp, .ref xt, .ref so, .ref g, .ref sc, .ref fo, .int sof]))] s.heap.size = A at hD hE ⊢
  have hA : ∀ q : Nat, s.heap.size ≤ q → A q := fun q h => by rw [← hAe]; exact Or.inr h
  have hl := lv_entry ([.ref x, .int one, .int other, .int v]) (n := 5) (Nat.le_of_ble_eq_true rfl)
  rw [lg_entry_eq]
  generalize (lg_sl ([.ref x, .int one, .int other, .int v]) ++ List.replicate (5 - (lg_sl ([.ref x, .int one, .int other, .int v])).length) Slot.unset).toArray = ls at hl ⊢
  have hl : lv_has ls 5 [(0, .ref x), (1, .int one), (2, .int other), (3, .int v)] := hl
  refine hv_start (A := A) (ws := [(x, .inr (5, [.ref xp, .ref xt, .ref so, .ref g, .ref sc, .ref fo, .int sof]))]) hP (fun H locs hP hS => ?_)
  have w_0 := hts (.classLink RX5 53 nse) (by decide +kernel)
  have w_1 := hts (.initialized nse) (by decide +kernel)
  refine lv_iload_n hx hb dX5_score_0 rfl (lv_at hl 1 rfl) ?_
  refine lv_if_lt (tgt := 20) hx hb dX5_score_1 (by decide) (fun c_1 => ?_) (fun c_1 => ?_)
  · exact thrX () rx_0 rx_1 rx_2 rx_5 hx hb htr hown (by decide +kernel) (by decide +kernel) w_0 w_1 (hE.2.2.1 (121, "there is no such kind") (by decide +kernel)) (vx_hat (fun w h => hts w (List.mem_cons_of_mem _ (List.mem_append_left _ (List.mem_append_right _ h)))) xb_nse (xK.at hE.2.2.2.2.2)) xg_nse hE hS (by rw [hml]; exact hl.1) dX5_score_20 dX5_score_23 dX5_score_24 dX5_score_26 dX5_score_29 ht (Nat.le_of_ble_eq_true rfl) (Nat.le_of_ble_eq_true rfl) (Nat.le_of_ble_eq_true rfl) (Nat.le_of_ble_eq_true rfl) hlocks hK hP hD trivial (Nat.le_of_ble_eq_true rfl) (Nat.le_of_ble_eq_true rfl)
  · refine lv_iload_n hx hb dX5_score_4 rfl (lv_at hl 1 rfl) ?_
    refine lv_bipush (v := 8) hx hb dX5_score_5 (by decide) ?_
    refine lv_icmp_ge (tgt := 20) hx hb dX5_score_7 (by decide) (fun c_7 => ?_) (fun c_7 => ?_)
    · exact thrX () rx_0 rx_1 rx_2 rx_5 hx hb htr hown (by decide +kernel) (by decide +kernel) w_0 w_1 (hE.2.2.1 (121, "there is no such kind") (by decide +kernel)) (vx_hat (fun w h => hts w (List.mem_cons_of_mem _ (List.mem_append_left _ (List.mem_append_right _ h)))) xb_nse (xK.at hE.2.2.2.2.2)) xg_nse hE hS (by rw [hml]; exact hl.1) dX5_score_20 dX5_score_23 dX5_score_24 dX5_score_26 dX5_score_29 ht (Nat.le_of_ble_eq_true rfl) (Nat.le_of_ble_eq_true rfl) (Nat.le_of_ble_eq_true rfl) (Nat.le_of_ble_eq_true rfl) hlocks hK hP hD trivial (Nat.le_of_ble_eq_true rfl) (Nat.le_of_ble_eq_true rfl)
    · refine lv_iload_n hx hb dX5_score_10 rfl (lv_at hl 2 rfl) ?_
      refine lv_if_lt (tgt := 20) hx hb dX5_score_11 (by decide) (fun c_11 => ?_) (fun c_11 => ?_)
      · exact thrX () rx_0 rx_1 rx_2 rx_5 hx hb htr hown (by decide +kernel) (by decide +kernel) w_0 w_1 (hE.2.2.1 (121, "there is no such kind") (by decide +kernel)) (vx_hat (fun w h => hts w (List.mem_cons_of_mem _ (List.mem_append_left _ (List.mem_append_right _ h)))) xb_nse (xK.at hE.2.2.2.2.2)) xg_nse hE hS (by rw [hml]; exact hl.1) dX5_score_20 dX5_score_23 dX5_score_24 dX5_score_26 dX5_score_29 ht (Nat.le_of_ble_eq_true rfl) (Nat.le_of_ble_eq_true rfl) (Nat.le_of_ble_eq_true rfl) (Nat.le_of_ble_eq_true rfl) hlocks hK hP hD trivial (Nat.le_of_ble_eq_true rfl) (Nat.le_of_ble_eq_true rfl)
      · refine lv_iload_n hx hb dX5_score_14 rfl (lv_at hl 2 rfl) ?_
        refine lv_bipush (v := 8) hx hb dX5_score_15 (by decide) ?_
        refine lv_icmp_lt (tgt := 30) hx hb dX5_score_17 (by decide) (fun c_17 => ?_) (fun c_17 => ?_)
        · exact absurd ⟨Int32.not_lt.mp c_1, Int32.not_le.mp c_7, Int32.not_lt.mp c_11, c_17⟩ h0
        · exact thrX () rx_0 rx_1 rx_2 rx_5 hx hb htr hown (by decide +kernel) (by decide +kernel) w_0 w_1 (hE.2.2.1 (121, "there is no such kind") (by decide +kernel)) (vx_hat (fun w h => hts w (List.mem_cons_of_mem _ (List.mem_append_left _ (List.mem_append_right _ h)))) xb_nse (xK.at hE.2.2.2.2.2)) xg_nse hE hS (by rw [hml]; exact hl.1) dX5_score_20 dX5_score_23 dX5_score_24 dX5_score_26 dX5_score_29 ht (Nat.le_of_ble_eq_true rfl) (Nat.le_of_ble_eq_true rfl) (Nat.le_of_ble_eq_true rfl) (Nat.le_of_ble_eq_true rfl) hlocks hK hP hD trivial (Nat.le_of_ble_eq_true rfl) (Nat.le_of_ble_eq_true rfl)

set_option maxHeartbeats 4000000 in
set_option maxRecDepth 100000 in
theorem c_X5_score_nv (l : Launch) (htr : l.stackTraces = false) (D : va_G) (cI cJ cL : ClassId) (sz : Nat) (x : Nat) (xp : Nat) (xt : Nat) (so : Nat) (g : Nat) (sc : Nat) (fo : Nat) (sof : Int32) (i : Nat) (j : Nat) (v : Int32) (hi : i < 8) (hj : j < 8) (h0 : ¬ (-1000 ≤ v ∧ v ≤ 1000)) :
    vx_Met l yX5_score wsX5_scoreB { frames := 6, cells := 1, slots := 6, locals := 90 } (va_Pc [.ref x, .int (nI i), .int (nI j), .int v] (Wx D [(cI, .int), (cJ, .array .int), (cL, .long)] [(x, .inr (5, [.ref xp, .ref xt, .ref so, .ref g, .ref sc, .ref fo, .int sof]))] sz))
      (fun _ _ _ _ => False) (vx_X (fun (_ : Unit) => True) (fun E _ t => E = iae ∧ Wa D [(cI, .int), (cJ, .array .int), (cL, .long)] (va_A [(x, .inr (5, [.ref xp, .ref xt, .ref so, .ref g, .ref sc, .ref fo, .int sof]))] sz) [(x, .inr (5, [.ref xp, .ref xt, .ref so, .ref g, .ref sc, .ref fo, .int sof]))] t) (va_A [(x, .inr (5, [.ref xp, .ref xt, .ref so, .ref g, .ref sc, .ref fo, .int sof]))] sz)) 1 6 (va_A [(x, .inr (5, [.ref xp, .ref xt, .ref so, .ref g, .ref sc, .ref fo, .int sof]))] sz) := by
  refine vx_ofW (cc := cX5_score) (maxL := 5) (ret := (some .int)) (by decide) rfl ?_
  intro p e s m args below meth c s₁ B hml ht hv
  obtain ⟨rfl, ⟨hsz, hP, hK, hD0⟩, hE⟩ := hv
  have hx := B.exec
  have hb := B.bytes
  have hr := B.returns
  have hts := atoms_spec (ws := wsX5_scoreB) B.pre
  have hown : s.vm.findClass RX5 = some m.cls := findClass_of_methodNamed B.named
  have hlocks := B.notSynchronized
  subst hsz
  have hD := hD0.self (sz := s.heap.size)
  generalize hAe : va_A [(x, .inr (5, [.ref xp, .ref xt, .ref so, .ref g, .ref sc, .ref fo, .int sof]))] s.heap.size = A at hD hE ⊢
  have hA : ∀ q : Nat, s.heap.size ≤ q → A q := fun q h => by rw [← hAe]; exact Or.inr h
  have hl := lv_entry ([.ref x, .int (nI i), .int (nI j), .int v]) (n := 5) (Nat.le_of_ble_eq_true rfl)
  rw [lg_entry_eq]
  generalize (lg_sl ([.ref x, .int (nI i), .int (nI j), .int v]) ++ List.replicate (5 - (lg_sl ([.ref x, .int (nI i), .int (nI j), .int v])).length) Slot.unset).toArray = ls at hl ⊢
  have hl : lv_has ls 5 [(0, .ref x), (1, .int (nI i)), (2, .int (nI j)), (3, .int v)] := hl
  refine hv_start (A := A) (ws := [(x, .inr (5, [.ref xp, .ref xt, .ref so, .ref g, .ref sc, .ref fo, .int sof]))]) hP (fun H locs hP hS => ?_)
  have w_0 := hts (.classLink RX5 82 iae) (by decide +kernel)
  have w_1 := hts (.initialized iae) (by decide +kernel)
  refine lv_iload_n hx hb dX5_score_0 rfl (lv_at hl 1 rfl) ?_
  refine lv_if_lt (tgt := 20) hx hb dX5_score_1 (by decide) (fun c_1 => ?_) (fun c_1 => ?_)
  · have k_1 : i < 0 := (nI_ltI (a := i) (b := 0) (by omega) (by omega)).mp c_1
    exact absurd k_1 (by omega)
  · have k_1 : ¬ (i < 0) := fun q => c_1 ((nI_ltI (a := i) (b := 0) (by omega) (by omega)).mpr q)
    refine lv_iload_n hx hb dX5_score_4 rfl (lv_at hl 1 rfl) ?_
    refine lv_bipush (v := 8) hx hb dX5_score_5 (by decide) ?_
    refine lv_icmp_ge (tgt := 20) hx hb dX5_score_7 (by decide) (fun c_7 => ?_) (fun c_7 => ?_)
    · have k_7 : 8 ≤ i := (nI_leI (a := 8) (b := i) (by omega) (by omega)).mp c_7
      exact absurd k_7 (by omega)
    · have k_7 : ¬ (8 ≤ i) := fun q => c_7 ((nI_leI (a := 8) (b := i) (by omega) (by omega)).mpr q)
      refine lv_iload_n hx hb dX5_score_10 rfl (lv_at hl 2 rfl) ?_
      refine lv_if_lt (tgt := 20) hx hb dX5_score_11 (by decide) (fun c_11 => ?_) (fun c_11 => ?_)
      · have k_11 : j < 0 := (nI_ltI (a := j) (b := 0) (by omega) (by omega)).mp c_11
        exact absurd k_11 (by omega)
      · have k_11 : ¬ (j < 0) := fun q => c_11 ((nI_ltI (a := j) (b := 0) (by omega) (by omega)).mpr q)
        refine lv_iload_n hx hb dX5_score_14 rfl (lv_at hl 2 rfl) ?_
        refine lv_bipush (v := 8) hx hb dX5_score_15 (by decide) ?_
        refine lv_icmp_lt (tgt := 30) hx hb dX5_score_17 (by decide) (fun c_17 => ?_) (fun c_17 => ?_)
        · have k_17 : j < 8 := (nI_ltI (a := j) (b := 8) (by omega) (by omega)).mp c_17
          refine lv_iload_n hx hb dX5_score_30 rfl (lv_at hl 3 rfl) ?_
          refine lv_sipush (v := (-1000)) hx hb dX5_score_31 (by decide) ?_
          refine lv_icmp_lt (tgt := 44) hx hb dX5_score_34 (by decide) (fun c_34 => ?_) (fun c_34 => ?_)
          · exact thr () hx hb htr hown (by decide +kernel) (by decide +kernel) w_0 w_1 (hE.2.2.1 (123, "v is not -1000 .. 1000") (by decide +kernel)) (vx_hat (fun w h => hts w (List.mem_cons_of_mem _ (List.mem_append_right _ h))) xb_iae (xK.at hE.2.2.2.2.2)) xg_iae hE hS (by rw [hml]; exact hl.1) dX5_score_44 dX5_score_47 dX5_score_48 dX5_score_50 dX5_score_53 ht (Nat.le_of_ble_eq_true rfl) (Nat.le_of_ble_eq_true rfl) (Nat.le_of_ble_eq_true rfl) (Nat.le_of_ble_eq_true rfl) hlocks hK hP hD trivial (Nat.le_of_ble_eq_true rfl) (Nat.le_of_ble_eq_true rfl)
          · refine lv_iload_n hx hb dX5_score_37 rfl (lv_at hl 3 rfl) ?_
            refine lv_sipush (v := 1000) hx hb dX5_score_38 (by decide) ?_
            refine lv_icmp_le (tgt := 54) hx hb dX5_score_41 (by decide) (fun c_41 => ?_) (fun c_41 => ?_)
            · exact absurd ⟨Int32.not_lt.mp c_34, c_41⟩ h0
            · exact thr () hx hb htr hown (by decide +kernel) (by decide +kernel) w_0 w_1 (hE.2.2.1 (123, "v is not -1000 .. 1000") (by decide +kernel)) (vx_hat (fun w h => hts w (List.mem_cons_of_mem _ (List.mem_append_right _ h))) xb_iae (xK.at hE.2.2.2.2.2)) xg_iae hE hS (by rw [hml]; exact hl.1) dX5_score_44 dX5_score_47 dX5_score_48 dX5_score_50 dX5_score_53 ht (Nat.le_of_ble_eq_true rfl) (Nat.le_of_ble_eq_true rfl) (Nat.le_of_ble_eq_true rfl) (Nat.le_of_ble_eq_true rfl) hlocks hK hP hD trivial (Nat.le_of_ble_eq_true rfl) (Nat.le_of_ble_eq_true rfl)
        · have k_17 : ¬ (j < 8) := fun q => c_17 ((nI_ltI (a := j) (b := 8) (by omega) (by omega)).mpr q)
          exact absurd k_17 (by omega)

set_option maxHeartbeats 4000000 in
set_option maxRecDepth 100000 in
theorem c_X5_gaps_n (l : Launch) (htr : l.stackTraces = false) (D : va_G) (cI cJ cL : ClassId) (sz : Nat) (x : Nat) (xp : Nat) (xt : Nat) (so : Nat) (g : Nat) (sc : Nat) (fo : Nat) (sof : Int32) (p0 : Int32) (p1 : Int32) (h0 : ¬ (0 ≤ p0 ∧ p0 ≤ 1000 ∧ 0 ≤ p1 ∧ p1 ≤ 1000)) :
    vx_Met l yX5_gaps wsX5_gaps { frames := 6, cells := 1, slots := 6, locals := 90 } (va_Pc [.ref x, .int p0, .int p1] (Wx D [(cI, .int), (cJ, .array .int), (cL, .long)] [(x, .inr (5, [.ref xp, .ref xt, .ref so, .ref g, .ref sc, .ref fo, .int sof]))] sz))
      (fun _ _ _ _ => False) (vx_X (fun (_ : Unit) => True) (fun E _ t => E = iae ∧ Wa D [(cI, .int), (cJ, .array .int), (cL, .long)] (va_A [(x, .inr (5, [.ref xp, .ref xt, .ref so, .ref g, .ref sc, .ref fo, .int sof]))] sz) [(x, .inr (5, [.ref xp, .ref xt, .ref so, .ref g, .ref sc, .ref fo, .int sof]))] t) (va_A [(x, .inr (5, [.ref xp, .ref xt, .ref so, .ref g, .ref sc, .ref fo, .int sof]))] sz)) 1 6 (va_A [(x, .inr (5, [.ref xp, .ref xt, .ref so, .ref g, .ref sc, .ref fo, .int sof]))] sz) := by
  refine vx_ofW (cc := cX5_gaps) (maxL := 3) (ret := none) (by decide) rfl ?_
  intro p e s m args below meth c s₁ B hml ht hv
  obtain ⟨rfl, ⟨hsz, hP, hK, hD0⟩, hE⟩ := hv
  have hx := B.exec
  have hb := B.bytes
  have hr := B.returns
  have hts := atoms_spec (ws := wsX5_gaps) B.pre
  have hown : s.vm.findClass RX5 = some m.cls := findClass_of_methodNamed B.named
  have hlocks := B.notSynchronized
  subst hsz
  have hD := hD0.self (sz := s.heap.size)
  generalize hAe : va_A [(x, .inr (5, [.ref xp, .ref xt, .ref so, .ref g, .ref sc, .ref fo, .int sof]))] s.heap.size = A at hD hE ⊢
  have hA : ∀ q : Nat, s.heap.size ≤ q → A q := fun q h => by rw [← hAe]; exact Or.inr h
  have hl := lv_entry ([.ref x, .int p0, .int p1]) (n := 3) (Nat.le_of_ble_eq_true rfl)
  rw [lg_entry_eq]
  generalize (lg_sl ([.ref x, .int p0, .int p1]) ++ List.replicate (3 - (lg_sl ([.ref x, .int p0, .int p1])).length) Slot.unset).toArray = ls at hl ⊢
  have hl : lv_has ls 3 [(0, .ref x), (1, .int p0), (2, .int p1)] := hl
  refine hv_start (A := A) (ws := [(x, .inr (5, [.ref xp, .ref xt, .ref so, .ref g, .ref sc, .ref fo, .int sof]))]) hP (fun H locs hP hS => ?_)
  have w_0 := hts (.classLink RX5 82 iae) (by decide +kernel)
  have w_1 := hts (.initialized iae) (by decide +kernel)
  refine lv_iload_n hx hb dX5_gaps_0 rfl (lv_at hl 1 rfl) ?_
  refine lv_if_lt (tgt := 11) hx hb dX5_gaps_1 (by decide) (fun c_1 => ?_) (fun c_1 => ?_)
  · exact thr () hx hb htr hown (by decide +kernel) (by decide +kernel) w_0 w_1 (hE.2.2.1 (133, "opening is not 0 .. 1000") (by decide +kernel)) (vx_hat (fun w h => hts w (List.mem_cons_of_mem _ (List.mem_append_right _ h))) xb_iae (xK.at hE.2.2.2.2.2)) xg_iae hE hS (by rw [hml]; exact hl.1) dX5_gaps_11 dX5_gaps_14 dX5_gaps_15 dX5_gaps_17 dX5_gaps_20 ht (Nat.le_of_ble_eq_true rfl) (Nat.le_of_ble_eq_true rfl) (Nat.le_of_ble_eq_true rfl) (Nat.le_of_ble_eq_true rfl) hlocks hK hP hD trivial (Nat.le_of_ble_eq_true rfl) (Nat.le_of_ble_eq_true rfl)
  · refine lv_iload_n hx hb dX5_gaps_4 rfl (lv_at hl 1 rfl) ?_
    refine lv_sipush (v := 1000) hx hb dX5_gaps_5 (by decide) ?_
    refine lv_icmp_le (tgt := 21) hx hb dX5_gaps_8 (by decide) (fun c_8 => ?_) (fun c_8 => ?_)
    · refine lv_iload_n hx hb dX5_gaps_21 rfl (lv_at hl 2 rfl) ?_
      refine lv_if_lt (tgt := 32) hx hb dX5_gaps_22 (by decide) (fun c_22 => ?_) (fun c_22 => ?_)
      · exact thr () hx hb htr hown (by decide +kernel) (by decide +kernel) w_0 w_1 (hE.2.2.1 (135, "extension is not 0 .. 1000") (by decide +kernel)) (vx_hat (fun w h => hts w (List.mem_cons_of_mem _ (List.mem_append_right _ h))) xb_iae (xK.at hE.2.2.2.2.2)) xg_iae hE hS (by rw [hml]; exact hl.1) dX5_gaps_32 dX5_gaps_35 dX5_gaps_36 dX5_gaps_38 dX5_gaps_41 ht (Nat.le_of_ble_eq_true rfl) (Nat.le_of_ble_eq_true rfl) (Nat.le_of_ble_eq_true rfl) (Nat.le_of_ble_eq_true rfl) hlocks hK hP hD trivial (Nat.le_of_ble_eq_true rfl) (Nat.le_of_ble_eq_true rfl)
      · refine lv_iload_n hx hb dX5_gaps_25 rfl (lv_at hl 2 rfl) ?_
        refine lv_sipush (v := 1000) hx hb dX5_gaps_26 (by decide) ?_
        refine lv_icmp_le (tgt := 42) hx hb dX5_gaps_29 (by decide) (fun c_29 => ?_) (fun c_29 => ?_)
        · exact absurd ⟨Int32.not_lt.mp c_1, c_8, Int32.not_lt.mp c_22, c_29⟩ h0
        · exact thr () hx hb htr hown (by decide +kernel) (by decide +kernel) w_0 w_1 (hE.2.2.1 (135, "extension is not 0 .. 1000") (by decide +kernel)) (vx_hat (fun w h => hts w (List.mem_cons_of_mem _ (List.mem_append_right _ h))) xb_iae (xK.at hE.2.2.2.2.2)) xg_iae hE hS (by rw [hml]; exact hl.1) dX5_gaps_32 dX5_gaps_35 dX5_gaps_36 dX5_gaps_38 dX5_gaps_41 ht (Nat.le_of_ble_eq_true rfl) (Nat.le_of_ble_eq_true rfl) (Nat.le_of_ble_eq_true rfl) (Nat.le_of_ble_eq_true rfl) hlocks hK hP hD trivial (Nat.le_of_ble_eq_true rfl) (Nat.le_of_ble_eq_true rfl)
    · exact thr () hx hb htr hown (by decide +kernel) (by decide +kernel) w_0 w_1 (hE.2.2.1 (133, "opening is not 0 .. 1000") (by decide +kernel)) (vx_hat (fun w h => hts w (List.mem_cons_of_mem _ (List.mem_append_right _ h))) xb_iae (xK.at hE.2.2.2.2.2)) xg_iae hE hS (by rw [hml]; exact hl.1) dX5_gaps_11 dX5_gaps_14 dX5_gaps_15 dX5_gaps_17 dX5_gaps_20 ht (Nat.le_of_ble_eq_true rfl) (Nat.le_of_ble_eq_true rfl) (Nat.le_of_ble_eq_true rfl) (Nat.le_of_ble_eq_true rfl) hlocks hK hP hD trivial (Nat.le_of_ble_eq_true rfl) (Nat.le_of_ble_eq_true rfl)

set_option maxHeartbeats 4000000 in
set_option maxRecDepth 100000 in
theorem c_X5_fit_no (l : Launch) (htr : l.stackTraces = false) (D : va_G) (cI cJ cL : ClassId) (sz : Nat) (x : Nat) (xp : Nat) (xt : Nat) (so : Nat) (g : Nat) (sc : Nat) (fo : Nat) (sof : Int32) (mode : Int32) (h0 : ¬ mode = 0) (h1 : ¬ mode = 1) :
    vx_Met l yX5_fit wsX5_fit { frames := 6, cells := 1, slots := 6, locals := 90 } (va_Pc [.ref x, .int mode] (Wx D [(cI, .int), (cJ, .array .int), (cL, .long)] [(x, .inr (5, [.ref xp, .ref xt, .ref so, .ref g, .ref sc, .ref fo, .int sof]))] sz))
      (fun _ _ _ _ => False) (vx_X (fun (_ : Unit) => True) (fun E _ t => E = iae ∧ Wa D [(cI, .int), (cJ, .array .int), (cL, .long)] (va_A [(x, .inr (5, [.ref xp, .ref xt, .ref so, .ref g, .ref sc, .ref fo, .int sof]))] sz) [(x, .inr (5, [.ref xp, .ref xt, .ref so, .ref g, .ref sc, .ref fo, .int sof]))] t) (va_A [(x, .inr (5, [.ref xp, .ref xt, .ref so, .ref g, .ref sc, .ref fo, .int sof]))] sz)) 1 6 (va_A [(x, .inr (5, [.ref xp, .ref xt, .ref so, .ref g, .ref sc, .ref fo, .int sof]))] sz) := by
  refine vx_ofW (cc := cX5_fit) (maxL := 2) (ret := (some .int)) (by decide) rfl ?_
  intro p e s m args below meth c s₁ B hml ht hv
  obtain ⟨rfl, ⟨hsz, hP, hK, hD0⟩, hE⟩ := hv
  have hx := B.exec
  have hb := B.bytes
  have hr := B.returns
  have hts := atoms_spec (ws := wsX5_fit) B.pre
  have hown : s.vm.findClass RX5 = some m.cls := findClass_of_methodNamed B.named
  have hlocks := B.notSynchronized
  subst hsz
  have hD := hD0.self (sz := s.heap.size)
  generalize hAe : va_A [(x, .inr (5, [.ref xp, .ref xt, .ref so, .ref g, .ref sc, .ref fo, .int sof]))] s.heap.size = A at hD hE ⊢
  have hA : ∀ q : Nat, s.heap.size ≤ q → A q := fun q h => by rw [← hAe]; exact Or.inr h
  have hl := lv_entry ([.ref x, .int mode]) (n := 2) (Nat.le_of_ble_eq_true rfl)
  rw [lg_entry_eq]
  generalize (lg_sl ([.ref x, .int mode]) ++ List.replicate (2 - (lg_sl ([.ref x, .int mode])).length) Slot.unset).toArray = ls at hl ⊢
  have hl : lv_has ls 2 [(0, .ref x), (1, .int mode)] := hl
  refine hv_start (A := A) (ws := [(x, .inr (5, [.ref xp, .ref xt, .ref so, .ref g, .ref sc, .ref fo, .int sof]))]) hP (fun H locs hP hS => ?_)
  have w_0 := hts (.classLink RX5 82 iae) (by decide +kernel)
  have w_1 := hts (.initialized iae) (by decide +kernel)
  refine lv_iload_n hx hb dX5_fit_0 rfl (lv_at hl 1 rfl) ?_
  refine lv_if_eq (tgt := 19) hx hb dX5_fit_1 (by decide) (fun c_1 => ?_) (fun c_1 => ?_)
  · exfalso; grind
  · refine lv_iload_n hx hb dX5_fit_4 rfl (lv_at hl 1 rfl) ?_
    refine lv_iconst (v := 1) hx hb dX5_fit_5 (by decide) ?_
    refine lv_icmp_eq (tgt := 19) hx hb dX5_fit_6 (by decide) (fun c_6 => ?_) (fun c_6 => ?_)
    · exfalso; grind
    · exact thr () hx hb htr hown (by decide +kernel) (by decide +kernel) w_0 w_1 (hE.2.2.1 (141, "mode is not 0 or 1") (by decide +kernel)) (vx_hat (fun w h => hts w (List.mem_cons_of_mem _ (List.mem_append_right _ h))) xb_iae (xK.at hE.2.2.2.2.2)) xg_iae hE hS (by rw [hml]; exact hl.1) dX5_fit_9 dX5_fit_12 dX5_fit_13 dX5_fit_15 dX5_fit_18 ht (Nat.le_of_ble_eq_true rfl) (Nat.le_of_ble_eq_true rfl) (Nat.le_of_ble_eq_true rfl) (Nat.le_of_ble_eq_true rfl) hlocks hK hP hD trivial (Nat.le_of_ble_eq_true rfl) (Nat.le_of_ble_eq_true rfl)

set_option maxHeartbeats 4000000 in
set_option maxRecDepth 100000 in
theorem c_X5_count_no (l : Launch) (htr : l.stackTraces = false) (D : va_G) (cI cJ cL : ClassId) (sz : Nat) (x : Nat) (xp : Nat) (xt : Nat) (so : Nat) (g : Nat) (sc : Nat) (fo : Nat) (sof : Int32) (what : Int32) (hw0 : ¬ (0 ≤ what ∧ what ≤ 4)) :
    vx_Met l yX5_count wsX5_count { frames := 6, cells := 1, slots := 6, locals := 90 } (va_Pc [.ref x, .int what] (Wx D [(cI, .int), (cJ, .array .int), (cL, .long)] [(x, .inr (5, [.ref xp, .ref xt, .ref so, .ref g, .ref sc, .ref fo, .int sof]))] sz))
      (fun _ _ _ _ => False) (vx_X (fun (_ : Unit) => True) (fun E _ t => E = iae ∧ Wa D [(cI, .int), (cJ, .array .int), (cL, .long)] (va_A [(x, .inr (5, [.ref xp, .ref xt, .ref so, .ref g, .ref sc, .ref fo, .int sof]))] sz) [(x, .inr (5, [.ref xp, .ref xt, .ref so, .ref g, .ref sc, .ref fo, .int sof]))] t) (va_A [(x, .inr (5, [.ref xp, .ref xt, .ref so, .ref g, .ref sc, .ref fo, .int sof]))] sz)) 1 6 (va_A [(x, .inr (5, [.ref xp, .ref xt, .ref so, .ref g, .ref sc, .ref fo, .int sof]))] sz) := by
  refine vx_ofW (cc := cX5_count) (maxL := 2) (ret := (some .int)) (by decide) rfl ?_
  intro p e s m args below meth c s₁ B hml ht hv
  obtain ⟨rfl, ⟨hsz, hP, hK, hD0⟩, hE⟩ := hv
  have hx := B.exec
  have hb := B.bytes
  have hr := B.returns
  have hts := atoms_spec (ws := wsX5_count) B.pre
  have hown : s.vm.findClass RX5 = some m.cls := findClass_of_methodNamed B.named
  have hlocks := B.notSynchronized
  subst hsz
  have hD := hD0.self (sz := s.heap.size)
  generalize hAe : va_A [(x, .inr (5, [.ref xp, .ref xt, .ref so, .ref g, .ref sc, .ref fo, .int sof]))] s.heap.size = A at hD hE ⊢
  have hA : ∀ q : Nat, s.heap.size ≤ q → A q := fun q h => by rw [← hAe]; exact Or.inr h
  have hl := lv_entry ([.ref x, .int what]) (n := 2) (Nat.le_of_ble_eq_true rfl)
  rw [lg_entry_eq]
  generalize (lg_sl ([.ref x, .int what]) ++ List.replicate (2 - (lg_sl ([.ref x, .int what])).length) Slot.unset).toArray = ls at hl ⊢
  have hl : lv_has ls 2 [(0, .ref x), (1, .int what)] := hl
  refine hv_start (A := A) (ws := [(x, .inr (5, [.ref xp, .ref xt, .ref so, .ref g, .ref sc, .ref fo, .int sof]))]) hP (fun H locs hP hS => ?_)
  have w_0 := hts (.classLink RX5 82 iae) (by decide +kernel)
  have w_1 := hts (.initialized iae) (by decide +kernel)
  refine lv_iload_n hx hb dX5_count_0 rfl (lv_at hl 1 rfl) ?_
  refine lv_tableOut (tgt := 114) hx hb dX5_count_1 (by have h0 : (0 : Int32).toInt = 0 := rfl; have h4 : (4 : Int32).toInt = 4 := rfl; rw [px_le, px_le, h0, h4] at hw0; omega) (by decide) ?_
  exact thr () hx hb htr hown (by decide +kernel) (by decide +kernel) w_0 w_1 (hE.2.2.1 (160, "what is not 0 .. 4") (by decide +kernel)) (vx_hat (fun w h => hts w (List.mem_cons_of_mem _ (List.mem_append_right _ h))) xb_iae (xK.at hE.2.2.2.2.2)) xg_iae hE hS (by rw [hml]; exact hl.1) dX5_count_114 dX5_count_117 dX5_count_118 dX5_count_120 dX5_count_123 ht (Nat.le_of_ble_eq_true rfl) (Nat.le_of_ble_eq_true rfl) (Nat.le_of_ble_eq_true rfl) (Nat.le_of_ble_eq_true rfl) hlocks hK hP hD trivial (Nat.le_of_ble_eq_true rfl) (Nat.le_of_ble_eq_true rfl)
