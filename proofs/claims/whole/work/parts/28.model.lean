set_option maxHeartbeats 4000000 in
set_option maxRecDepth 100000 in
theorem c_X6_write (l : Launch) (D : va_G) (cI cJ cL : ClassId) (sz : Nat) (mo : Nat) (m_p : Nat) (m_t : Nat) (m_op : Nat) (m_ot : Nat) (m_e : Nat) (m_d : Nat) (m_s : Nat) (m_b : Nat) (m_n : Nat) (m_bb : Nat) (m_bg : Nat) (m_l : Nat) (m_sc : Nat) (m_so : Nat) (m_bo : Nat) (m_ac : Nat) (m_dn : Nat) (mm : Nat) (nn : Nat) (om : Nat) (on : Nat) (cnt : Nat) (th : Int32) (stp : Int32) (oo : Int32) (xx : Int32) (bp : Int32) (bt : Int32) (pp : Nat → Int32) (tt : Nat → Int32) (op : Nat → Int32) (ot : Nat → Int32) (fe : Nat → Int32) (fd : Nat → Int32) (fs : Nat → Int32) (vb : Nat → Int32) (vn : Nat → Int32) (vbb : Nat → Int32) (vbg : Nat → Int32) (vl : Nat → Int32) (vsc : Nat → Int32) (vso : Nat → Int32) (vbo : Nat → Int32) (vac : Nat → Int32) (vdn : Nat → Int32) (f : Nat) (st : Nat) (n : Nat) (hf : f < 301) (hom : om ≤ 150) (hon : on ≤ 300) (hn : st + n ≤ on) (hfe : fe f = nI (st + n)) (hfs : fs f = nI st) :
    Met l yX6_write wsX6_write { frames := 0, cells := 0, slots := 0, locals := 0 } (va_Pc [.ref mo, .int (nI f)] (Wd D [(cI, .int), (cJ, .array .int), (cL, .long)] [(mo, .inr (6, [.int th, .ref m_p, .ref m_t, .int (nI mm), .int (nI nn), .ref m_op, .ref m_ot, .int (nI om), .int (nI on), .int (nI cnt), .ref m_e, .ref m_d, .ref m_s, .ref m_b, .ref m_n, .ref m_bb, .ref m_bg, .ref m_l, .int stp, .ref m_sc, .ref m_so, .int oo, .int xx, .ref m_bo, .ref m_ac, .ref m_dn, .int bp, .int bt])), (m_p, .inl (cI, 150, .inl pp)), (m_t, .inl (cI, 300, .inl tt)), (m_op, .inl (cI, 150, .inl op)), (m_ot, .inl (cI, 300, .inl ot)), (m_e, .inl (cI, 301, .inl fe)), (m_d, .inl (cI, 301, .inl fd)), (m_s, .inl (cI, 301, .inl fs)), (m_b, .inl (cI, 151, .inl vb)), (m_n, .inl (cI, 151, .inl vn)), (m_bb, .inl (cI, 151, .inl vbb)), (m_bg, .inl (cI, 151, .inl vbg)), (m_l, .inl (cI, 45451, .inl vl)), (m_sc, .inl (cI, 451, .inl vsc)), (m_so, .inl (cI, 64, .inl vso)), (m_bo, .inl (cI, 301, .inl vbo)), (m_ac, .inl (cI, 301, .inl vac)), (m_dn, .inl (cI, 301, .inl vdn))] sz))
      (va_Qv (fun (u : Nat × (Nat → Int32) × (Nat → Int32)) => px_sc op ot om st (st + n) u.1 u.2.1 ∧ u.1 ≤ 450) (fun u => Wa D [(cI, .int), (cJ, .array .int), (cL, .long)] (va_A [(mo, .inr (6, [.int th, .ref m_p, .ref m_t, .int (nI mm), .int (nI nn), .ref m_op, .ref m_ot, .int (nI om), .int (nI on), .int (nI cnt), .ref m_e, .ref m_d, .ref m_s, .ref m_b, .ref m_n, .ref m_bb, .ref m_bg, .ref m_l, .int stp, .ref m_sc, .ref m_so, .int oo, .int xx, .ref m_bo, .ref m_ac, .ref m_dn, .int bp, .int bt])), (m_p, .inl (cI, 150, .inl pp)), (m_t, .inl (cI, 300, .inl tt)), (m_op, .inl (cI, 150, .inl op)), (m_ot, .inl (cI, 300, .inl ot)), (m_e, .inl (cI, 301, .inl fe)), (m_d, .inl (cI, 301, .inl fd)), (m_s, .inl (cI, 301, .inl fs)), (m_b, .inl (cI, 151, .inl vb)), (m_n, .inl (cI, 151, .inl vn)), (m_bb, .inl (cI, 151, .inl vbb)), (m_bg, .inl (cI, 151, .inl vbg)), (m_l, .inl (cI, 45451, .inl vl)), (m_sc, .inl (cI, 451, .inl vsc)), (m_so, .inl (cI, 64, .inl vso)), (m_bo, .inl (cI, 301, .inl vbo)), (m_ac, .inl (cI, 301, .inl vac)), (m_dn, .inl (cI, 301, .inl vdn))] sz) ([(mo, .inr (6, [.int th, .ref m_p, .ref m_t, .int (nI mm), .int (nI nn), .ref m_op, .ref m_ot, .int (nI om), .int (nI on), .int (nI cnt), .ref m_e, .ref m_d, .ref m_s, .ref m_b, .ref m_n, .ref m_bb, .ref m_bg, .ref m_l, .int (nI u.1), .ref m_sc, .ref m_so, .int oo, .int xx, .ref m_bo, .ref m_ac, .ref m_dn, .int bp, .int bt])), (m_p, .inl (cI, 150, .inl pp)), (m_t, .inl (cI, 300, .inl tt)), (m_op, .inl (cI, 150, .inl op)), (m_ot, .inl (cI, 300, .inl ot)), (m_e, .inl (cI, 301, .inl fe)), (m_d, .inl (cI, 301, .inl fd)), (m_s, .inl (cI, 301, .inl fs)), (m_b, .inl (cI, 151, .inl vb)), (m_n, .inl (cI, 151, .inl vn)), (m_bb, .inl (cI, 151, .inl vbb)), (m_bg, .inl (cI, 151, .inl vbg)), (m_l, .inl (cI, 45451, .inl u.2.2)), (m_sc, .inl (cI, 451, .inl u.2.1)), (m_so, .inl (cI, 64, .inl vso)), (m_bo, .inl (cI, 301, .inl vbo)), (m_ac, .inl (cI, 301, .inl vac)), (m_dn, .inl (cI, 301, .inl vdn))])) (va_A [(mo, .inr (6, [.int th, .ref m_p, .ref m_t, .int (nI mm), .int (nI nn), .ref m_op, .ref m_ot, .int (nI om), .int (nI on), .int (nI cnt), .ref m_e, .ref m_d, .ref m_s, .ref m_b, .ref m_n, .ref m_bb, .ref m_bg, .ref m_l, .int stp, .ref m_sc, .ref m_so, .int oo, .int xx, .ref m_bo, .ref m_ac, .ref m_dn, .int bp, .int bt])), (m_p, .inl (cI, 150, .inl pp)), (m_t, .inl (cI, 300, .inl tt)), (m_op, .inl (cI, 150, .inl op)), (m_ot, .inl (cI, 300, .inl ot)), (m_e, .inl (cI, 301, .inl fe)), (m_d, .inl (cI, 301, .inl fd)), (m_s, .inl (cI, 301, .inl fs)), (m_b, .inl (cI, 151, .inl vb)), (m_n, .inl (cI, 151, .inl vn)), (m_bb, .inl (cI, 151, .inl vbb)), (m_bg, .inl (cI, 151, .inl vbg)), (m_l, .inl (cI, 45451, .inl vl)), (m_sc, .inl (cI, 451, .inl vsc)), (m_so, .inl (cI, 64, .inl vso)), (m_bo, .inl (cI, 301, .inl vbo)), (m_ac, .inl (cI, 301, .inl vac)), (m_dn, .inl (cI, 301, .inl vdn))] sz)) 0 0 (va_A [(mo, .inr (6, [.int th, .ref m_p, .ref m_t, .int (nI mm), .int (nI nn), .ref m_op, .ref m_ot, .int (nI om), .int (nI on), .int (nI cnt), .ref m_e, .ref m_d, .ref m_s, .ref m_b, .ref m_n, .ref m_bb, .ref m_bg, .ref m_l, .int stp, .ref m_sc, .ref m_so, .int oo, .int xx, .ref m_bo, .ref m_ac, .ref m_dn, .int bp, .int bt])), (m_p, .inl (cI, 150, .inl pp)), (m_t, .inl (cI, 300, .inl tt)), (m_op, .inl (cI, 150, .inl op)), (m_ot, .inl (cI, 300, .inl ot)), (m_e, .inl (cI, 301, .inl fe)), (m_d, .inl (cI, 301, .inl fd)), (m_s, .inl (cI, 301, .inl fs)), (m_b, .inl (cI, 151, .inl vb)), (m_n, .inl (cI, 151, .inl vn)), (m_bb, .inl (cI, 151, .inl vbb)), (m_bg, .inl (cI, 151, .inl vbg)), (m_l, .inl (cI, 45451, .inl vl)), (m_sc, .inl (cI, 451, .inl vsc)), (m_so, .inl (cI, 64, .inl vso)), (m_bo, .inl (cI, 301, .inl vbo)), (m_ac, .inl (cI, 301, .inl vac)), (m_dn, .inl (cI, 301, .inl vdn))] sz) := by
  refine Met.ofW (cc := cX6_write) (maxL := 10) (ret := none) (by decide) rfl ?_
  intro p e s m args below meth c s₁ B hml hv
  obtain ⟨rfl, hsz, hP, hK, hD0⟩ := hv
  have hx := B.exec
  have hb := B.bytes
  have hr := B.returns
  have hts := atoms_spec (ws := wsX6_write) B.pre
  have hown : s.vm.findClass RX6 = some m.cls := findClass_of_methodNamed B.named
  have hlocks := B.notSynchronized
  subst hsz
  have hD := hD0.self (sz := s.heap.size)
  generalize hAe : va_A [(mo, .inr (6, [.int th, .ref m_p, .ref m_t, .int (nI mm), .int (nI nn), .ref m_op, .ref m_ot, .int (nI om), .int (nI on), .int (nI cnt), .ref m_e, .ref m_d, .ref m_s, .ref m_b, .ref m_n, .ref m_bb, .ref m_bg, .ref m_l, .int stp, .ref m_sc, .ref m_so, .int oo, .int xx, .ref m_bo, .ref m_ac, .ref m_dn, .int bp, .int bt])), (m_p, .inl (cI, 150, .inl pp)), (m_t, .inl (cI, 300, .inl tt)), (m_op, .inl (cI, 150, .inl op)), (m_ot, .inl (cI, 300, .inl ot)), (m_e, .inl (cI, 301, .inl fe)), (m_d, .inl (cI, 301, .inl fd)), (m_s, .inl (cI, 301, .inl fs)), (m_b, .inl (cI, 151, .inl vb)), (m_n, .inl (cI, 151, .inl vn)), (m_bb, .inl (cI, 151, .inl vbb)), (m_bg, .inl (cI, 151, .inl vbg)), (m_l, .inl (cI, 45451, .inl vl)), (m_sc, .inl (cI, 451, .inl vsc)), (m_so, .inl (cI, 64, .inl vso)), (m_bo, .inl (cI, 301, .inl vbo)), (m_ac, .inl (cI, 301, .inl vac)), (m_dn, .inl (cI, 301, .inl vdn))] s.heap.size = A at hD ⊢
  have hA : ∀ q : Nat, s.heap.size ≤ q → A q := fun q h => by rw [← hAe]; exact Or.inr h
  have hl := lv_entry ([.ref mo, .int (nI f)]) (n := 10) (Nat.le_of_ble_eq_true rfl)
  rw [lg_entry_eq]
  generalize (lg_sl ([.ref mo, .int (nI f)]) ++ List.replicate (10 - (lg_sl ([.ref mo, .int (nI f)])).length) Slot.unset).toArray = ls at hl ⊢
  have hl : lv_has ls 10 [(0, .ref mo), (1, .int (nI f))] := hl
  refine hv_start (A := A) (ws := [(mo, .inr (6, [.int th, .ref m_p, .ref m_t, .int (nI mm), .int (nI nn), .ref m_op, .ref m_ot, .int (nI om), .int (nI on), .int (nI cnt), .ref m_e, .ref m_d, .ref m_s, .ref m_b, .ref m_n, .ref m_bb, .ref m_bg, .ref m_l, .int stp, .ref m_sc, .ref m_so, .int oo, .int xx, .ref m_bo, .ref m_ac, .ref m_dn, .int bp, .int bt])), (m_p, .inl (cI, 150, .inl pp)), (m_t, .inl (cI, 300, .inl tt)), (m_op, .inl (cI, 150, .inl op)), (m_ot, .inl (cI, 300, .inl ot)), (m_e, .inl (cI, 301, .inl fe)), (m_d, .inl (cI, 301, .inl fd)), (m_s, .inl (cI, 301, .inl fs)), (m_b, .inl (cI, 151, .inl vb)), (m_n, .inl (cI, 151, .inl vn)), (m_bb, .inl (cI, 151, .inl vbb)), (m_bg, .inl (cI, 151, .inl vbg)), (m_l, .inl (cI, 45451, .inl vl)), (m_sc, .inl (cI, 451, .inl vsc)), (m_so, .inl (cI, 64, .inl vso)), (m_bo, .inl (cI, 301, .inl vbo)), (m_ac, .inl (cI, 301, .inl vac)), (m_dn, .inl (cI, 301, .inl vdn))]) hP (fun H locs hP hS => ?_)
  have w_0 := hts (.fieldLink RX6 22 "TextAlignerModel" "ends" "[I") (by decide +kernel)
  have i_X6 : ∀ w ∈ wsX60, w ∈ wsX6_write := by decide +kernel
  have w_2 := hts (.fieldLink RX6 28 "TextAlignerModel" "starts" "[I") (by decide +kernel)
  have w_3 := hts (.fieldLink RX6 100 "TextAlignerModel" "oldMany" "I") (by decide +kernel)
  have w_4 := hts (.fieldLink RX6 106 "TextAlignerModel" "steps" "I") (by decide +kernel)
  have w_5 := hts (.fieldLink RX6 44 "TextAlignerModel" "left" "[I") (by decide +kernel)
  have w_6 := hts (.fieldLink RX6 47 "TextAlignerModel" "script" "[I") (by decide +kernel)
  have w_7 := hts (.fieldLink RX6 16 "TextAlignerModel" "oldPattern" "[I") (by decide +kernel)
  have w_8 := hts (.fieldLink RX6 19 "TextAlignerModel" "oldText" "[I") (by decide +kernel)
  refine lv_aload_n hx hb dX6_write_0 rfl (lv_at hl 0 rfl) ?_
  refine va_get (D := D) (ci := 6) (v := .ref m_e) (C := RX6) (T := TX6) (N := 28) hx hb hts i_X6 hown hK hP 0 rfl rfl 10 (by decide) w_0 (fun _ h9 => h9) rfl dX6_write_1 ?_
  refine lv_iload_n hx hb dX6_write_4 rfl (lv_at hl 1 rfl) ?_
  refine va_ialdN hx hb hK hP 5 0 rfl rfl (k := f) (by omega) (by decide) dX6_write_5 ?_
  refine lv_cv (y := nI (st + n)) (hfe) ?_
  refine lv_aload_n hx hb dX6_write_6 rfl (lv_at hl 0 rfl) ?_
  refine va_get (D := D) (ci := 6) (v := .ref m_s) (C := RX6) (T := TX6) (N := 28) hx hb hts i_X6 hown hK hP 0 rfl rfl 12 (by decide) w_2 (fun _ h9 => h9) rfl dX6_write_7 ?_
  refine lv_iload_n hx hb dX6_write_10 rfl (lv_at hl 1 rfl) ?_
  refine va_ialdN hx hb hK hP 7 0 rfl rfl (k := f) (by omega) (by decide) dX6_write_11 ?_
  refine lv_cv (y := nI st) (hfs) ?_
  refine lv_isub hx hb dX6_write_12 ?_
  refine lv_cv (y := nI n) ((pk_sub (by omega)).trans (by rw [Nat.add_sub_cancel_left])) ?_
  refine lv_istore_n (lv' := [(2, .int (nI n)), (0, .ref mo), (1, .int (nI f))]) hx hb dX6_write_13 rfl hl (by decide) rfl (fun ls hl => ?_)
  refine lv_aload_n hx hb dX6_write_14 rfl (lv_at hl 1 rfl) ?_
  refine va_get (D := D) (ci := 6) (v := .ref m_s) (C := RX6) (T := TX6) (N := 28) hx hb hts i_X6 hown hK hP 0 rfl rfl 12 (by decide) w_2 (fun _ h9 => h9) rfl dX6_write_15 ?_
  refine lv_iload_n hx hb dX6_write_18 rfl (lv_at hl 2 rfl) ?_
  refine va_ialdN hx hb hK hP 7 0 rfl rfl (k := f) (by omega) (by decide) dX6_write_19 ?_
  refine lv_cv (y := nI st) (hfs) ?_
  refine lv_istore_n (lv' := [(3, .int (nI st)), (2, .int (nI n)), (0, .ref mo), (1, .int (nI f))]) hx hb dX6_write_20 rfl hl (by decide) rfl (fun ls hl => ?_)
  refine lv_aload_n hx hb dX6_write_21 rfl (lv_at hl 2 rfl) ?_
  refine va_get (D := D) (ci := 6) (v := .int (nI om)) (C := RX6) (T := TX6) (N := 28) hx hb hts i_X6 hown hK hP 0 rfl rfl 7 (by decide) w_3 (fun _ h9 => h9) rfl dX6_write_22 ?_
  refine lv_istore (lv' := [(4, .int (nI om)), (3, .int (nI st)), (2, .int (nI n)), (0, .ref mo), (1, .int (nI f))]) hx hb dX6_write_25 hl (by decide) rfl (fun ls hl => ?_)
  refine hv_loop (fun zz H locs ls => ∃ (q4 : Nat) (x4 : Int32) (w1 : Nat → Int32), q4 ≤ om + 1 ∧ x4 = nI q4 + (-1) ∧ (∀ i1, q4 ≤ i1 → i1 ≤ om → ∀ j1, j1 ≤ n → w1 (301 * i1 + j1) = nI (px_er op ot om (st + n) (om - i1) (n - j1))) ∧ zz = q4 ∧ va_P D vwCl [(mo, .inr (6, [.int th, .ref m_p, .ref m_t, .int (nI mm), .int (nI nn), .ref m_op, .ref m_ot, .int (nI om), .int (nI on), .int (nI cnt), .ref m_e, .ref m_d, .ref m_s, .ref m_b, .ref m_n, .ref m_bb, .ref m_bg, .ref m_l, .int stp, .ref m_sc, .ref m_so, .int oo, .int xx, .ref m_bo, .ref m_ac, .ref m_dn, .int bp, .int bt])), (m_p, .inl (cI, 150, .inl pp)), (m_t, .inl (cI, 300, .inl tt)), (m_op, .inl (cI, 150, .inl op)), (m_ot, .inl (cI, 300, .inl ot)), (m_e, .inl (cI, 301, .inl fe)), (m_d, .inl (cI, 301, .inl fd)), (m_s, .inl (cI, 301, .inl fs)), (m_b, .inl (cI, 151, .inl vb)), (m_n, .inl (cI, 151, .inl vn)), (m_bb, .inl (cI, 151, .inl vbb)), (m_bg, .inl (cI, 151, .inl vbg)), (m_l, .inl (cI, 45451, .inl w1)), (m_sc, .inl (cI, 451, .inl vsc)), (m_so, .inl (cI, 64, .inl vso)), (m_bo, .inl (cI, 301, .inl vbo)), (m_ac, .inl (cI, 301, .inl vac)), (m_dn, .inl (cI, 301, .inl vdn))] H ∧ va_D A [(mo, .inr (6, [.int th, .ref m_p, .ref m_t, .int (nI mm), .int (nI nn), .ref m_op, .ref m_ot, .int (nI om), .int (nI on), .int (nI cnt), .ref m_e, .ref m_d, .ref m_s, .ref m_b, .ref m_n, .ref m_bb, .ref m_bg, .ref m_l, .int stp, .ref m_sc, .ref m_so, .int oo, .int xx, .ref m_bo, .ref m_ac, .ref m_dn, .int bp, .int bt])), (m_p, .inl (cI, 150, .inl pp)), (m_t, .inl (cI, 300, .inl tt)), (m_op, .inl (cI, 150, .inl op)), (m_ot, .inl (cI, 300, .inl ot)), (m_e, .inl (cI, 301, .inl fe)), (m_d, .inl (cI, 301, .inl fd)), (m_s, .inl (cI, 301, .inl fs)), (m_b, .inl (cI, 151, .inl vb)), (m_n, .inl (cI, 151, .inl vn)), (m_bb, .inl (cI, 151, .inl vbb)), (m_bg, .inl (cI, 151, .inl vbg)), (m_l, .inl (cI, 45451, .inl w1)), (m_sc, .inl (cI, 451, .inl vsc)), (m_so, .inl (cI, 64, .inl vso)), (m_bo, .inl (cI, 301, .inl vbo)), (m_ac, .inl (cI, 301, .inl vac)), (m_dn, .inl (cI, 301, .inl vdn))] ∧ va_S A s.heap H locs ∧ lv_has ls 10 [(0, .ref mo), (2, .int (nI n)), (3, .int (nI st)), (4, .int x4)]) ?_ _ ⟨om + 1, nI om, vl, by omega, (pk_m1 om).symm, fun i1 h1 h2 => absurd h1 (by omega), rfl, hP, hD, hS, lv_sub hl [3, 2, 1, 0] rfl⟩
  intro zz_27 H locs ls hI ih_27
  obtain ⟨q4, x4, w1, hq4, hx4, hd4, hzz_27, hP, hD, hS, hl⟩ := hI
  refine lv_iload hx hb dX6_write_27 (lv_at hl 3 rfl) ?_
  refine lv_if_lt (tgt := 227) hx hb dX6_write_29 (by decide) (fun c_29 => ?_) (fun c_29 => ?_)
  · have hq0 := dn_lt hx4 (by omega) c_29
    refine lv_aload_n hx hb dX6_write_227 rfl (lv_at hl 0 rfl) ?_
    refine lv_iconst (v := 0) hx hb dX6_write_228 (by decide) ?_
    refine W.eq (g2 := F0 m 229 ls [.int (nI 0), .ref mo]) rfl ?_
    refine va_put (D := D) (ci := 6) (v := .int (nI 0)) (ty := .int) (C := RX6) (T := TX6) (N := 28) hx hb hts i_X6 tyX6 tyX6_ok nmX6 hown hK hP hD hS 0 rfl rfl 18 (by decide) w_4 (fun _ h9 => h9) rfl (by decide +kernel) rfl rfl (Nat.le_of_ble_eq_true rfl) dX6_write_229 (fun H locs hP hD hS => ?_)
    have hP : va_P D vwCl [(mo, .inr (6, [.int th, .ref m_p, .ref m_t, .int (nI mm), .int (nI nn), .ref m_op, .ref m_ot, .int (nI om), .int (nI on), .int (nI cnt), .ref m_e, .ref m_d, .ref m_s, .ref m_b, .ref m_n, .ref m_bb, .ref m_bg, .ref m_l, .int (nI 0), .ref m_sc, .ref m_so, .int oo, .int xx, .ref m_bo, .ref m_ac, .ref m_dn, .int bp, .int bt])), (m_p, .inl (cI, 150, .inl pp)), (m_t, .inl (cI, 300, .inl tt)), (m_op, .inl (cI, 150, .inl op)), (m_ot, .inl (cI, 300, .inl ot)), (m_e, .inl (cI, 301, .inl fe)), (m_d, .inl (cI, 301, .inl fd)), (m_s, .inl (cI, 301, .inl fs)), (m_b, .inl (cI, 151, .inl vb)), (m_n, .inl (cI, 151, .inl vn)), (m_bb, .inl (cI, 151, .inl vbb)), (m_bg, .inl (cI, 151, .inl vbg)), (m_l, .inl (cI, 45451, .inl w1)), (m_sc, .inl (cI, 451, .inl vsc)), (m_so, .inl (cI, 64, .inl vso)), (m_bo, .inl (cI, 301, .inl vbo)), (m_ac, .inl (cI, 301, .inl vac)), (m_dn, .inl (cI, 301, .inl vdn))] H := hP
    have hD : va_D A [(mo, .inr (6, [.int th, .ref m_p, .ref m_t, .int (nI mm), .int (nI nn), .ref m_op, .ref m_ot, .int (nI om), .int (nI on), .int (nI cnt), .ref m_e, .ref m_d, .ref m_s, .ref m_b, .ref m_n, .ref m_bb, .ref m_bg, .ref m_l, .int (nI 0), .ref m_sc, .ref m_so, .int oo, .int xx, .ref m_bo, .ref m_ac, .ref m_dn, .int bp, .int bt])), (m_p, .inl (cI, 150, .inl pp)), (m_t, .inl (cI, 300, .inl tt)), (m_op, .inl (cI, 150, .inl op)), (m_ot, .inl (cI, 300, .inl ot)), (m_e, .inl (cI, 301, .inl fe)), (m_d, .inl (cI, 301, .inl fd)), (m_s, .inl (cI, 301, .inl fs)), (m_b, .inl (cI, 151, .inl vb)), (m_n, .inl (cI, 151, .inl vn)), (m_bb, .inl (cI, 151, .inl vbb)), (m_bg, .inl (cI, 151, .inl vbg)), (m_l, .inl (cI, 45451, .inl w1)), (m_sc, .inl (cI, 451, .inl vsc)), (m_so, .inl (cI, 64, .inl vso)), (m_bo, .inl (cI, 301, .inl vbo)), (m_ac, .inl (cI, 301, .inl vac)), (m_dn, .inl (cI, 301, .inl vdn))] := hD
    refine lv_iconst (v := 0) hx hb dX6_write_232 (by decide) ?_
    refine lv_istore (lv' := [(4, .int 0), (0, .ref mo), (2, .int (nI n)), (3, .int (nI st))]) hx hb dX6_write_233 hl (by decide) rfl (fun ls hl => ?_)
    refine lv_iconst (v := 0) hx hb dX6_write_235 (by decide) ?_
    refine lv_istore (lv' := [(5, .int 0), (4, .int 0), (0, .ref mo), (2, .int (nI n)), (3, .int (nI st))]) hx hb dX6_write_236 hl (by decide) rfl (fun ls hl => ?_)
    have hd9 : ∀ i1, i1 ≤ om → ∀ j1, j1 ≤ n → w1 (301 * i1 + j1) = nI (px_er op ot om (st + n) (om - i1) (n - j1)) := fun i1 h1 j1 h2 => hd4 i1 (by omega) h1 j1 h2
    refine hv_loop (fun zz H locs ls => ∃ (k : Nat) (i : Nat) (j : Nat) (sc9 : Nat → Int32), (px_tr op ot om st (st + n) k) = (i, st + j) ∧ (∀ k1, k1 < k → ¬ (om ≤ (px_tr op ot om st (st + n) k1).1 ∧ st + n ≤ (px_tr op ot om st (st + n) k1).2)) ∧ (∀ k1, k1 < k → sc9 k1 = px_st op ot om (st + n) (px_tr op ot om st (st + n) k1).1 (px_tr op ot om st (st + n) k1).2) ∧ zz = om + n - (i + j) ∧ va_P D vwCl [(mo, .inr (6, [.int th, .ref m_p, .ref m_t, .int (nI mm), .int (nI nn), .ref m_op, .ref m_ot, .int (nI om), .int (nI on), .int (nI cnt), .ref m_e, .ref m_d, .ref m_s, .ref m_b, .ref m_n, .ref m_bb, .ref m_bg, .ref m_l, .int (nI k), .ref m_sc, .ref m_so, .int oo, .int xx, .ref m_bo, .ref m_ac, .ref m_dn, .int bp, .int bt])), (m_p, .inl (cI, 150, .inl pp)), (m_t, .inl (cI, 300, .inl tt)), (m_op, .inl (cI, 150, .inl op)), (m_ot, .inl (cI, 300, .inl ot)), (m_e, .inl (cI, 301, .inl fe)), (m_d, .inl (cI, 301, .inl fd)), (m_s, .inl (cI, 301, .inl fs)), (m_b, .inl (cI, 151, .inl vb)), (m_n, .inl (cI, 151, .inl vn)), (m_bb, .inl (cI, 151, .inl vbb)), (m_bg, .inl (cI, 151, .inl vbg)), (m_l, .inl (cI, 45451, .inl w1)), (m_sc, .inl (cI, 451, .inl sc9)), (m_so, .inl (cI, 64, .inl vso)), (m_bo, .inl (cI, 301, .inl vbo)), (m_ac, .inl (cI, 301, .inl vac)), (m_dn, .inl (cI, 301, .inl vdn))] H ∧ va_D A [(mo, .inr (6, [.int th, .ref m_p, .ref m_t, .int (nI mm), .int (nI nn), .ref m_op, .ref m_ot, .int (nI om), .int (nI on), .int (nI cnt), .ref m_e, .ref m_d, .ref m_s, .ref m_b, .ref m_n, .ref m_bb, .ref m_bg, .ref m_l, .int (nI k), .ref m_sc, .ref m_so, .int oo, .int xx, .ref m_bo, .ref m_ac, .ref m_dn, .int bp, .int bt])), (m_p, .inl (cI, 150, .inl pp)), (m_t, .inl (cI, 300, .inl tt)), (m_op, .inl (cI, 150, .inl op)), (m_ot, .inl (cI, 300, .inl ot)), (m_e, .inl (cI, 301, .inl fe)), (m_d, .inl (cI, 301, .inl fd)), (m_s, .inl (cI, 301, .inl fs)), (m_b, .inl (cI, 151, .inl vb)), (m_n, .inl (cI, 151, .inl vn)), (m_bb, .inl (cI, 151, .inl vbb)), (m_bg, .inl (cI, 151, .inl vbg)), (m_l, .inl (cI, 45451, .inl w1)), (m_sc, .inl (cI, 451, .inl sc9)), (m_so, .inl (cI, 64, .inl vso)), (m_bo, .inl (cI, 301, .inl vbo)), (m_ac, .inl (cI, 301, .inl vac)), (m_dn, .inl (cI, 301, .inl vdn))] ∧ va_S A s.heap H locs ∧ lv_has ls 10 [(0, .ref mo), (2, .int (nI n)), (3, .int (nI st)), (4, .int (nI i)), (5, .int (nI j))]) ?_ _ ⟨0, 0, 0, vsc, rfl, fun k1 h => absurd h (Nat.not_lt_zero k1), fun k1 h => absurd h (Nat.not_lt_zero k1), rfl, hP, hD, hS, lv_sub hl [2, 3, 4, 1, 0] rfl⟩
    intro zz_238 H locs ls hI ih_238
    obtain ⟨k, i, j, sc9, htr, hun, hsc, hzz_238, hP, hD, hS, hl⟩ := hI
    refine lv_iload hx hb dX6_write_238 (lv_at hl 3 rfl) ?_
    have hin : i ≤ om ∧ st ≤ st + j ∧ st + j ≤ st + n ∧ st + k ≤ i + (st + j) := by
      have h := px_tr_in (p := op) (t := ot) (m := om) (st := st) (en := st + n) (by omega) k hun
      rw [htr] at h; exact h
    have bE0 := px_er_le op ot om (st + n) (om - i) (n - j)
    have bE1 := px_er_le op ot om (st + n) (om - (i + 1)) (n - (j + 1))
    have bE2 := px_er_le op ot om (st + n) (om - (i + 1)) (n - j)
    refine lv_aload_n hx hb dX6_write_240 rfl (lv_at hl 0 rfl) ?_
    refine va_get (D := D) (ci := 6) (v := .int (nI om)) (C := RX6) (T := TX6) (N := 28) hx hb hts i_X6 hown hK hP 0 rfl rfl 7 (by decide) w_3 (fun _ h9 => h9) rfl dX6_write_241 ?_
    refine lv_icmp_lt (tgt := 253) hx hb dX6_write_244 (by decide) (fun c_244 => ?_) (fun c_244 => ?_)
    · have k_244 : i < om := (nI_ltI (a := i) (b := om) (by omega) (by omega)).mp c_244
      refine lv_aload_n hx hb dX6_write_253 rfl (lv_at hl 0 rfl) ?_
      refine va_get (D := D) (ci := 6) (v := .ref m_l) (C := RX6) (T := TX6) (N := 28) hx hb hts i_X6 hown hK hP 0 rfl rfl 17 (by decide) w_5 (fun _ h9 => h9) rfl dX6_write_254 ?_
      refine lv_sipush (v := 301) hx hb dX6_write_257 (by decide) ?_
      refine lv_iload hx hb dX6_write_260 (lv_at hl 3 rfl) ?_
      refine lv_imul hx hb dX6_write_262 ?_
      refine lv_cv (y := nI (301 * i)) (pk_mul 301 i) ?_
      refine lv_iload hx hb dX6_write_263 (lv_at hl 4 rfl) ?_
      refine lv_iadd hx hb dX6_write_265 ?_
      refine lv_cv (y := nI (301 * i + j)) (nI_add (301 * i) j) ?_
      refine va_ialdN hx hb hK hP 12 0 rfl rfl (k := 301 * i + j) (by omega) (by decide) dX6_write_266 ?_
      refine lv_cv (y := nI (px_er op ot om (st + n) (om - i) (n - j))) (hd9 i (by omega) j (by omega)) ?_
      refine lv_istore (lv' := [(6, .int (nI (px_er op ot om (st + n) (om - i) (n - j)))), (0, .ref mo), (2, .int (nI n)), (3, .int (nI st)), (4, .int (nI i)), (5, .int (nI j))]) hx hb dX6_write_267 hl (by decide) rfl (fun ls hl => ?_)
      refine lv_iload hx hb dX6_write_269 (lv_at hl 4 rfl) ?_
      refine lv_aload_n hx hb dX6_write_271 rfl (lv_at hl 1 rfl) ?_
      refine va_get (D := D) (ci := 6) (v := .int (nI om)) (C := RX6) (T := TX6) (N := 28) hx hb hts i_X6 hown hK hP 0 rfl rfl 7 (by decide) w_3 (fun _ h9 => h9) rfl dX6_write_272 ?_
      refine lv_icmp_ge (tgt := 288) hx hb dX6_write_275 (by decide) (fun c_275 => ?_) (fun c_275 => ?_)
      · have k_275 : om ≤ i := (nI_leI (a := om) (b := i) (by omega) (by omega)).mp c_275
        refine lv_iconst (v := 0) hx hb dX6_write_288 (by decide) ?_
        refine lv_istore (lv' := [(7, .int 0), (6, .int (nI (px_er op ot om (st + n) (om - i) (n - j)))), (0, .ref mo), (2, .int (nI n)), (3, .int (nI st)), (4, .int (nI i)), (5, .int (nI j))]) hx hb dX6_write_289 hl (by decide) rfl (fun ls hl => ?_)
        refine lv_iload hx hb dX6_write_291 (lv_at hl 0 rfl) ?_
        refine lv_if_eq (tgt := 319) hx hb dX6_write_293 (by decide) (fun c_293 => ?_) (fun c_293 => ?_)
        · refine lv_iconst (v := 0) hx hb dX6_write_319 (by decide) ?_
          refine lv_istore (lv' := [(8, .int 0), (7, .int 0), (6, .int (nI (px_er op ot om (st + n) (om - i) (n - j)))), (0, .ref mo), (2, .int (nI n)), (3, .int (nI st)), (4, .int (nI i)), (5, .int (nI j))]) hx hb dX6_write_320 hl (by decide) rfl (fun ls hl => ?_)
          refine lv_iload hx hb dX6_write_322 (lv_at hl 1 rfl) ?_
          refine lv_if_eq (tgt := 373) hx hb dX6_write_324 (by decide) (fun c_324 => ?_) (fun c_324 => ?_)
          · refine lv_iload hx hb dX6_write_373 (lv_at hl 6 rfl) ?_
            refine lv_aload_n hx hb dX6_write_375 rfl (lv_at hl 3 rfl) ?_
            refine va_get (D := D) (ci := 6) (v := .int (nI om)) (C := RX6) (T := TX6) (N := 28) hx hb hts i_X6 hown hK hP 0 rfl rfl 7 (by decide) w_3 (fun _ h9 => h9) rfl dX6_write_376 ?_
            refine lv_icmp_ge (tgt := 423) hx hb dX6_write_379 (by decide) (fun c_379 => ?_) (fun c_379 => ?_)
            · have k_379 : om ≤ i := (nI_leI (a := om) (b := i) (by omega) (by omega)).mp c_379
              refine lv_aload_n hx hb dX6_write_423 rfl (lv_at hl 3 rfl) ?_
              refine va_get (D := D) (ci := 6) (v := .ref m_sc) (C := RX6) (T := TX6) (N := 28) hx hb hts i_X6 hown hK hP 0 rfl rfl 19 (by decide) w_6 (fun _ h9 => h9) rfl dX6_write_424 ?_
              refine lv_aload_n hx hb dX6_write_427 rfl (lv_at hl 3 rfl) ?_
              refine va_get (D := D) (ci := 6) (v := .int (nI k)) (C := RX6) (T := TX6) (N := 28) hx hb hts i_X6 hown hK hP 0 rfl rfl 18 (by decide) w_4 (fun _ h9 => h9) rfl dX6_write_428 ?_
              refine lv_iconst (v := 3) hx hb dX6_write_431 (by decide) ?_
              refine va_iastN hx hb hK hP hD hS 13 0 rfl rfl (k := k) (x := 3) (by omega) (by decide) dX6_write_432 (fun H locs hP hD hS => ?_)
              have hP : va_P D vwCl [(mo, .inr (6, [.int th, .ref m_p, .ref m_t, .int (nI mm), .int (nI nn), .ref m_op, .ref m_ot, .int (nI om), .int (nI on), .int (nI cnt), .ref m_e, .ref m_d, .ref m_s, .ref m_b, .ref m_n, .ref m_bb, .ref m_bg, .ref m_l, .int (nI k), .ref m_sc, .ref m_so, .int oo, .int xx, .ref m_bo, .ref m_ac, .ref m_dn, .int bp, .int bt])), (m_p, .inl (cI, 150, .inl pp)), (m_t, .inl (cI, 300, .inl tt)), (m_op, .inl (cI, 150, .inl op)), (m_ot, .inl (cI, 300, .inl ot)), (m_e, .inl (cI, 301, .inl fe)), (m_d, .inl (cI, 301, .inl fd)), (m_s, .inl (cI, 301, .inl fs)), (m_b, .inl (cI, 151, .inl vb)), (m_n, .inl (cI, 151, .inl vn)), (m_bb, .inl (cI, 151, .inl vbb)), (m_bg, .inl (cI, 151, .inl vbg)), (m_l, .inl (cI, 45451, .inl w1)), (m_sc, .inl (cI, 451, .inl (upd sc9 k 3))), (m_so, .inl (cI, 64, .inl vso)), (m_bo, .inl (cI, 301, .inl vbo)), (m_ac, .inl (cI, 301, .inl vac)), (m_dn, .inl (cI, 301, .inl vdn))] H := hP
              have hD : va_D A [(mo, .inr (6, [.int th, .ref m_p, .ref m_t, .int (nI mm), .int (nI nn), .ref m_op, .ref m_ot, .int (nI om), .int (nI on), .int (nI cnt), .ref m_e, .ref m_d, .ref m_s, .ref m_b, .ref m_n, .ref m_bb, .ref m_bg, .ref m_l, .int (nI k), .ref m_sc, .ref m_so, .int oo, .int xx, .ref m_bo, .ref m_ac, .ref m_dn, .int bp, .int bt])), (m_p, .inl (cI, 150, .inl pp)), (m_t, .inl (cI, 300, .inl tt)), (m_op, .inl (cI, 150, .inl op)), (m_ot, .inl (cI, 300, .inl ot)), (m_e, .inl (cI, 301, .inl fe)), (m_d, .inl (cI, 301, .inl fd)), (m_s, .inl (cI, 301, .inl fs)), (m_b, .inl (cI, 151, .inl vb)), (m_n, .inl (cI, 151, .inl vn)), (m_bb, .inl (cI, 151, .inl vbb)), (m_bg, .inl (cI, 151, .inl vbg)), (m_l, .inl (cI, 45451, .inl w1)), (m_sc, .inl (cI, 451, .inl (upd sc9 k 3))), (m_so, .inl (cI, 64, .inl vso)), (m_bo, .inl (cI, 301, .inl vbo)), (m_ac, .inl (cI, 301, .inl vac)), (m_dn, .inl (cI, 301, .inl vdn))] := hD
              refine lv_iinc (v := nI (j + 1)) (lv' := [(5, .int (nI (j + 1))), (8, .int 0), (7, .int 0), (6, .int (nI (px_er op ot om (st + n) (om - i) (n - j)))), (0, .ref mo), (2, .int (nI n)), (3, .int (nI st)), (4, .int (nI i))]) hx hb dX6_write_433 hl (k := 7) rfl (nI_add j 1) (by decide) rfl (fun ls hl => ?_)
              refine lv_aload_n hx hb dX6_write_436 rfl (lv_at hl 4 rfl) ?_
              refine lv_dup hx hb dX6_write_437 rfl ?_
              refine va_get (D := D) (ci := 6) (v := .int (nI k)) (C := RX6) (T := TX6) (N := 28) hx hb hts i_X6 hown hK hP 0 rfl rfl 18 (by decide) w_4 (fun _ h9 => h9) rfl dX6_write_438 ?_
              refine lv_iconst (v := 1) hx hb dX6_write_441 (by decide) ?_
              refine lv_iadd hx hb dX6_write_442 ?_
              refine lv_cv (y := nI (k + 1)) (nI_1 k) ?_
              refine va_put (D := D) (ci := 6) (v := .int (nI (k + 1))) (ty := .int) (C := RX6) (T := TX6) (N := 28) hx hb hts i_X6 tyX6 tyX6_ok nmX6 hown hK hP hD hS 0 rfl rfl 18 (by decide) w_4 (fun _ h9 => h9) rfl (by decide +kernel) rfl rfl (Nat.le_of_ble_eq_true rfl) dX6_write_443 (fun H locs hP hD hS => ?_)
              have hP : va_P D vwCl [(mo, .inr (6, [.int th, .ref m_p, .ref m_t, .int (nI mm), .int (nI nn), .ref m_op, .ref m_ot, .int (nI om), .int (nI on), .int (nI cnt), .ref m_e, .ref m_d, .ref m_s, .ref m_b, .ref m_n, .ref m_bb, .ref m_bg, .ref m_l, .int (nI (k + 1)), .ref m_sc, .ref m_so, .int oo, .int xx, .ref m_bo, .ref m_ac, .ref m_dn, .int bp, .int bt])), (m_p, .inl (cI, 150, .inl pp)), (m_t, .inl (cI, 300, .inl tt)), (m_op, .inl (cI, 150, .inl op)), (m_ot, .inl (cI, 300, .inl ot)), (m_e, .inl (cI, 301, .inl fe)), (m_d, .inl (cI, 301, .inl fd)), (m_s, .inl (cI, 301, .inl fs)), (m_b, .inl (cI, 151, .inl vb)), (m_n, .inl (cI, 151, .inl vn)), (m_bb, .inl (cI, 151, .inl vbb)), (m_bg, .inl (cI, 151, .inl vbg)), (m_l, .inl (cI, 45451, .inl w1)), (m_sc, .inl (cI, 451, .inl (upd sc9 k 3))), (m_so, .inl (cI, 64, .inl vso)), (m_bo, .inl (cI, 301, .inl vbo)), (m_ac, .inl (cI, 301, .inl vac)), (m_dn, .inl (cI, 301, .inl vdn))] H := hP
              have hD : va_D A [(mo, .inr (6, [.int th, .ref m_p, .ref m_t, .int (nI mm), .int (nI nn), .ref m_op, .ref m_ot, .int (nI om), .int (nI on), .int (nI cnt), .ref m_e, .ref m_d, .ref m_s, .ref m_b, .ref m_n, .ref m_bb, .ref m_bg, .ref m_l, .int (nI (k + 1)), .ref m_sc, .ref m_so, .int oo, .int xx, .ref m_bo, .ref m_ac, .ref m_dn, .int bp, .int bt])), (m_p, .inl (cI, 150, .inl pp)), (m_t, .inl (cI, 300, .inl tt)), (m_op, .inl (cI, 150, .inl op)), (m_ot, .inl (cI, 300, .inl ot)), (m_e, .inl (cI, 301, .inl fe)), (m_d, .inl (cI, 301, .inl fd)), (m_s, .inl (cI, 301, .inl fs)), (m_b, .inl (cI, 151, .inl vb)), (m_n, .inl (cI, 151, .inl vn)), (m_bb, .inl (cI, 151, .inl vbb)), (m_bg, .inl (cI, 151, .inl vbg)), (m_l, .inl (cI, 45451, .inl w1)), (m_sc, .inl (cI, 451, .inl (upd sc9 k 3))), (m_so, .inl (cI, 64, .inl vso)), (m_bo, .inl (cI, 301, .inl vbo)), (m_ac, .inl (cI, 301, .inl vac)), (m_dn, .inl (cI, 301, .inl vdn))] := hD
              refine lv_goto (tgt := 238) hx hb dX6_write_446 (by decide) ?_
              have hs9 : px_st op ot om (st + n) i (st + j) = 3 := by rw [px_st_r]; exact (if_pos (by omega))
              exact ih_238 (om + n - (i + (j + 1))) _ _ _ (by omega) ⟨k + 1, i, j + 1, upd sc9 k 3, px_tr_3 htr hs9, px_un_s htr hun (by omega), px_sc_s htr hsc hs9, rfl, hP, hD, hS, lv_sub hl [4, 5, 6, 7, 0] rfl⟩
            · have k_379 : ¬ (om ≤ i) := fun q => c_379 ((nI_leI (a := om) (b := i) (by omega) (by omega)).mpr q)
              exact absurd (show om ≤ i by omega) k_379
          · exact absurd c_324 (by decide)
        · exact absurd c_293 (by decide)
      · have k_275 : ¬ (om ≤ i) := fun q => c_275 ((nI_leI (a := om) (b := i) (by omega) (by omega)).mpr q)
        refine lv_iload hx hb dX6_write_278 (lv_at hl 5 rfl) ?_
        refine lv_iload_n hx hb dX6_write_280 rfl (lv_at hl 2 rfl) ?_
        refine lv_icmp_ge (tgt := 288) hx hb dX6_write_281 (by decide) (fun c_281 => ?_) (fun c_281 => ?_)
        · have k_281 : n ≤ j := (nI_leI (a := n) (b := j) (by omega) (by omega)).mp c_281
          refine lv_iconst (v := 0) hx hb dX6_write_288 (by decide) ?_
          refine lv_istore (lv' := [(7, .int 0), (6, .int (nI (px_er op ot om (st + n) (om - i) (n - j)))), (0, .ref mo), (2, .int (nI n)), (3, .int (nI st)), (4, .int (nI i)), (5, .int (nI j))]) hx hb dX6_write_289 hl (by decide) rfl (fun ls hl => ?_)
          refine lv_iload hx hb dX6_write_291 (lv_at hl 0 rfl) ?_
          refine lv_if_eq (tgt := 319) hx hb dX6_write_293 (by decide) (fun c_293 => ?_) (fun c_293 => ?_)
          · refine lv_iconst (v := 0) hx hb dX6_write_319 (by decide) ?_
            refine lv_istore (lv' := [(8, .int 0), (7, .int 0), (6, .int (nI (px_er op ot om (st + n) (om - i) (n - j)))), (0, .ref mo), (2, .int (nI n)), (3, .int (nI st)), (4, .int (nI i)), (5, .int (nI j))]) hx hb dX6_write_320 hl (by decide) rfl (fun ls hl => ?_)
            refine lv_iload hx hb dX6_write_322 (lv_at hl 1 rfl) ?_
            refine lv_if_eq (tgt := 373) hx hb dX6_write_324 (by decide) (fun c_324 => ?_) (fun c_324 => ?_)
            · refine lv_iload hx hb dX6_write_373 (lv_at hl 6 rfl) ?_
              refine lv_aload_n hx hb dX6_write_375 rfl (lv_at hl 3 rfl) ?_
              refine va_get (D := D) (ci := 6) (v := .int (nI om)) (C := RX6) (T := TX6) (N := 28) hx hb hts i_X6 hown hK hP 0 rfl rfl 7 (by decide) w_3 (fun _ h9 => h9) rfl dX6_write_376 ?_
              refine lv_icmp_ge (tgt := 423) hx hb dX6_write_379 (by decide) (fun c_379 => ?_) (fun c_379 => ?_)
              · have k_379 : om ≤ i := (nI_leI (a := om) (b := i) (by omega) (by omega)).mp c_379
                exact absurd k_379 (by omega)
              · have k_379 : ¬ (om ≤ i) := fun q => c_379 ((nI_leI (a := om) (b := i) (by omega) (by omega)).mpr q)
                refine lv_iload hx hb dX6_write_382 (lv_at hl 2 rfl) ?_
                refine lv_iconst (v := 1) hx hb dX6_write_384 (by decide) ?_
                refine lv_aload_n hx hb dX6_write_385 rfl (lv_at hl 3 rfl) ?_
                refine va_get (D := D) (ci := 6) (v := .ref m_l) (C := RX6) (T := TX6) (N := 28) hx hb hts i_X6 hown hK hP 0 rfl rfl 17 (by decide) w_5 (fun _ h9 => h9) rfl dX6_write_386 ?_
                refine lv_sipush (v := 301) hx hb dX6_write_389 (by decide) ?_
                refine lv_iload hx hb dX6_write_392 (lv_at hl 6 rfl) ?_
                refine lv_imul hx hb dX6_write_394 ?_
                refine lv_cv (y := nI (301 * i)) (pk_mul 301 i) ?_
                refine lv_iload hx hb dX6_write_395 (lv_at hl 7 rfl) ?_
                refine lv_iadd hx hb dX6_write_397 ?_
                refine lv_cv (y := nI (301 * i + j)) (nI_add (301 * i) j) ?_
                refine lv_sipush (v := 301) hx hb dX6_write_398 (by decide) ?_
                refine lv_iadd hx hb dX6_write_401 ?_
                refine lv_cv (y := nI (301 * i + j + 301)) (nI_add (301 * i + j) 301) ?_
                refine va_ialdN hx hb hK hP 12 0 rfl rfl (k := 301 * i + j + 301) (by omega) (by decide) dX6_write_402 ?_
                refine lv_cv (y := nI (px_er op ot om (st + n) (om - (i + 1)) (n - j))) ((by rw [show 301 * i + j + 301 = 301 * (i + 1) + j by omega]; exact hd9 (i + 1) (by omega) j (by omega))) ?_
                refine lv_iadd hx hb dX6_write_403 ?_
                refine lv_cv (y := nI (1 + (px_er op ot om (st + n) (om - (i + 1)) (n - j)))) (nI_add 1 (px_er op ot om (st + n) (om - (i + 1)) (n - j))) ?_
                refine lv_icmp_ne (tgt := 423) hx hb dX6_write_404 (by decide) (fun c_404 => ?_) (fun c_404 => ?_)
                · have k_404 : ¬ (px_er op ot om (st + n) (om - i) (n - j) = 1 + (px_er op ot om (st + n) (om - (i + 1)) (n - j))) := fun q => c_404 ((nI_eq (a := px_er op ot om (st + n) (om - i) (n - j)) (b := 1 + (px_er op ot om (st + n) (om - (i + 1)) (n - j))) (by omega) (by omega)).mpr q)
                  have ej : n - j = 0 := by omega
                  rw [ej, px_er_b0, px_er_b0] at k_404
                  exact absurd k_404 (by omega)
                · have k_404 : px_er op ot om (st + n) (om - i) (n - j) = 1 + (px_er op ot om (st + n) (om - (i + 1)) (n - j)) := (nI_eq (a := px_er op ot om (st + n) (om - i) (n - j)) (b := 1 + (px_er op ot om (st + n) (om - (i + 1)) (n - j))) (by omega) (by omega)).mp c_404
                  refine lv_aload_n hx hb dX6_write_407 rfl (lv_at hl 3 rfl) ?_
                  refine va_get (D := D) (ci := 6) (v := .ref m_sc) (C := RX6) (T := TX6) (N := 28) hx hb hts i_X6 hown hK hP 0 rfl rfl 19 (by decide) w_6 (fun _ h9 => h9) rfl dX6_write_408 ?_
                  refine lv_aload_n hx hb dX6_write_411 rfl (lv_at hl 3 rfl) ?_
                  refine va_get (D := D) (ci := 6) (v := .int (nI k)) (C := RX6) (T := TX6) (N := 28) hx hb hts i_X6 hown hK hP 0 rfl rfl 18 (by decide) w_4 (fun _ h9 => h9) rfl dX6_write_412 ?_
                  refine lv_iconst (v := 2) hx hb dX6_write_415 (by decide) ?_
                  refine va_iastN hx hb hK hP hD hS 13 0 rfl rfl (k := k) (x := 2) (by omega) (by decide) dX6_write_416 (fun H locs hP hD hS => ?_)
                  have hP : va_P D vwCl [(mo, .inr (6, [.int th, .ref m_p, .ref m_t, .int (nI mm), .int (nI nn), .ref m_op, .ref m_ot, .int (nI om), .int (nI on), .int (nI cnt), .ref m_e, .ref m_d, .ref m_s, .ref m_b, .ref m_n, .ref m_bb, .ref m_bg, .ref m_l, .int (nI k), .ref m_sc, .ref m_so, .int oo, .int xx, .ref m_bo, .ref m_ac, .ref m_dn, .int bp, .int bt])), (m_p, .inl (cI, 150, .inl pp)), (m_t, .inl (cI, 300, .inl tt)), (m_op, .inl (cI, 150, .inl op)), (m_ot, .inl (cI, 300, .inl ot)), (m_e, .inl (cI, 301, .inl fe)), (m_d, .inl (cI, 301, .inl fd)), (m_s, .inl (cI, 301, .inl fs)), (m_b, .inl (cI, 151, .inl vb)), (m_n, .inl (cI, 151, .inl vn)), (m_bb, .inl (cI, 151, .inl vbb)), (m_bg, .inl (cI, 151, .inl vbg)), (m_l, .inl (cI, 45451, .inl w1)), (m_sc, .inl (cI, 451, .inl (upd sc9 k 2))), (m_so, .inl (cI, 64, .inl vso)), (m_bo, .inl (cI, 301, .inl vbo)), (m_ac, .inl (cI, 301, .inl vac)), (m_dn, .inl (cI, 301, .inl vdn))] H := hP
                  have hD : va_D A [(mo, .inr (6, [.int th, .ref m_p, .ref m_t, .int (nI mm), .int (nI nn), .ref m_op, .ref m_ot, .int (nI om), .int (nI on), .int (nI cnt), .ref m_e, .ref m_d, .ref m_s, .ref m_b, .ref m_n, .ref m_bb, .ref m_bg, .ref m_l, .int (nI k), .ref m_sc, .ref m_so, .int oo, .int xx, .ref m_bo, .ref m_ac, .ref m_dn, .int bp, .int bt])), (m_p, .inl (cI, 150, .inl pp)), (m_t, .inl (cI, 300, .inl tt)), (m_op, .inl (cI, 150, .inl op)), (m_ot, .inl (cI, 300, .inl ot)), (m_e, .inl (cI, 301, .inl fe)), (m_d, .inl (cI, 301, .inl fd)), (m_s, .inl (cI, 301, .inl fs)), (m_b, .inl (cI, 151, .inl vb)), (m_n, .inl (cI, 151, .inl vn)), (m_bb, .inl (cI, 151, .inl vbb)), (m_bg, .inl (cI, 151, .inl vbg)), (m_l, .inl (cI, 45451, .inl w1)), (m_sc, .inl (cI, 451, .inl (upd sc9 k 2))), (m_so, .inl (cI, 64, .inl vso)), (m_bo, .inl (cI, 301, .inl vbo)), (m_ac, .inl (cI, 301, .inl vac)), (m_dn, .inl (cI, 301, .inl vdn))] := hD
                  refine lv_iinc (v := nI (i + 1)) (lv' := [(4, .int (nI (i + 1))), (8, .int 0), (7, .int 0), (6, .int (nI (px_er op ot om (st + n) (om - i) (n - j)))), (0, .ref mo), (2, .int (nI n)), (3, .int (nI st)), (5, .int (nI j))]) hx hb dX6_write_417 hl (k := 6) rfl (nI_add i 1) (by decide) rfl (fun ls hl => ?_)
                  refine lv_goto (tgt := 436) hx hb dX6_write_420 (by decide) ?_
                  refine lv_aload_n hx hb dX6_write_436 rfl (lv_at hl 4 rfl) ?_
                  refine lv_dup hx hb dX6_write_437 rfl ?_
                  refine va_get (D := D) (ci := 6) (v := .int (nI k)) (C := RX6) (T := TX6) (N := 28) hx hb hts i_X6 hown hK hP 0 rfl rfl 18 (by decide) w_4 (fun _ h9 => h9) rfl dX6_write_438 ?_
                  refine lv_iconst (v := 1) hx hb dX6_write_441 (by decide) ?_
                  refine lv_iadd hx hb dX6_write_442 ?_
                  refine lv_cv (y := nI (k + 1)) (nI_1 k) ?_
                  refine va_put (D := D) (ci := 6) (v := .int (nI (k + 1))) (ty := .int) (C := RX6) (T := TX6) (N := 28) hx hb hts i_X6 tyX6 tyX6_ok nmX6 hown hK hP hD hS 0 rfl rfl 18 (by decide) w_4 (fun _ h9 => h9) rfl (by decide +kernel) rfl rfl (Nat.le_of_ble_eq_true rfl) dX6_write_443 (fun H locs hP hD hS => ?_)
                  have hP : va_P D vwCl [(mo, .inr (6, [.int th, .ref m_p, .ref m_t, .int (nI mm), .int (nI nn), .ref m_op, .ref m_ot, .int (nI om), .int (nI on), .int (nI cnt), .ref m_e, .ref m_d, .ref m_s, .ref m_b, .ref m_n, .ref m_bb, .ref m_bg, .ref m_l, .int (nI (k + 1)), .ref m_sc, .ref m_so, .int oo, .int xx, .ref m_bo, .ref m_ac, .ref m_dn, .int bp, .int bt])), (m_p, .inl (cI, 150, .inl pp)), (m_t, .inl (cI, 300, .inl tt)), (m_op, .inl (cI, 150, .inl op)), (m_ot, .inl (cI, 300, .inl ot)), (m_e, .inl (cI, 301, .inl fe)), (m_d, .inl (cI, 301, .inl fd)), (m_s, .inl (cI, 301, .inl fs)), (m_b, .inl (cI, 151, .inl vb)), (m_n, .inl (cI, 151, .inl vn)), (m_bb, .inl (cI, 151, .inl vbb)), (m_bg, .inl (cI, 151, .inl vbg)), (m_l, .inl (cI, 45451, .inl w1)), (m_sc, .inl (cI, 451, .inl (upd sc9 k 2))), (m_so, .inl (cI, 64, .inl vso)), (m_bo, .inl (cI, 301, .inl vbo)), (m_ac, .inl (cI, 301, .inl vac)), (m_dn, .inl (cI, 301, .inl vdn))] H := hP
                  have hD : va_D A [(mo, .inr (6, [.int th, .ref m_p, .ref m_t, .int (nI mm), .int (nI nn), .ref m_op, .ref m_ot, .int (nI om), .int (nI on), .int (nI cnt), .ref m_e, .ref m_d, .ref m_s, .ref m_b, .ref m_n, .ref m_bb, .ref m_bg, .ref m_l, .int (nI (k + 1)), .ref m_sc, .ref m_so, .int oo, .int xx, .ref m_bo, .ref m_ac, .ref m_dn, .int bp, .int bt])), (m_p, .inl (cI, 150, .inl pp)), (m_t, .inl (cI, 300, .inl tt)), (m_op, .inl (cI, 150, .inl op)), (m_ot, .inl (cI, 300, .inl ot)), (m_e, .inl (cI, 301, .inl fe)), (m_d, .inl (cI, 301, .inl fd)), (m_s, .inl (cI, 301, .inl fs)), (m_b, .inl (cI, 151, .inl vb)), (m_n, .inl (cI, 151, .inl vn)), (m_bb, .inl (cI, 151, .inl vbb)), (m_bg, .inl (cI, 151, .inl vbg)), (m_l, .inl (cI, 45451, .inl w1)), (m_sc, .inl (cI, 451, .inl (upd sc9 k 2))), (m_so, .inl (cI, 64, .inl vso)), (m_bo, .inl (cI, 301, .inl vbo)), (m_ac, .inl (cI, 301, .inl vac)), (m_dn, .inl (cI, 301, .inl vdn))] := hD
                  refine lv_goto (tgt := 238) hx hb dX6_write_446 (by decide) ?_
                  have hs9 : px_st op ot om (st + n) i (st + j) = 2 := by rw [px_st_r]; exact (by rw [if_neg (by omega), if_pos (by omega)])
                  exact ih_238 (om + n - (i + 1 + (j))) _ _ _ (by omega) ⟨k + 1, i + 1, j, upd sc9 k 2, px_tr_2 htr hs9, px_un_s htr hun (by omega), px_sc_s htr hsc hs9, rfl, hP, hD, hS, lv_sub hl [4, 5, 6, 0, 7] rfl⟩
            · exact absurd c_324 (by decide)
          · exact absurd c_293 (by decide)
        · have k_281 : ¬ (n ≤ j) := fun q => c_281 ((nI_leI (a := n) (b := j) (by omega) (by omega)).mpr q)
          refine lv_iconst (v := 1) hx hb dX6_write_284 (by decide) ?_
          refine lv_goto (tgt := 289) hx hb dX6_write_285 (by decide) ?_
          refine lv_istore (lv' := [(7, .int 1), (6, .int (nI (px_er op ot om (st + n) (om - i) (n - j)))), (0, .ref mo), (2, .int (nI n)), (3, .int (nI st)), (4, .int (nI i)), (5, .int (nI j))]) hx hb dX6_write_289 hl (by decide) rfl (fun ls hl => ?_)
          refine lv_iload hx hb dX6_write_291 (lv_at hl 0 rfl) ?_
          refine lv_if_eq (tgt := 319) hx hb dX6_write_293 (by decide) (fun c_293 => ?_) (fun c_293 => ?_)
          · exact absurd c_293 (by decide)
          · refine lv_aload_n hx hb dX6_write_296 rfl (lv_at hl 2 rfl) ?_
            refine va_get (D := D) (ci := 6) (v := .ref m_op) (C := RX6) (T := TX6) (N := 28) hx hb hts i_X6 hown hK hP 0 rfl rfl 5 (by decide) w_7 (fun _ h9 => h9) rfl dX6_write_297 ?_
            refine lv_iload hx hb dX6_write_300 (lv_at hl 5 rfl) ?_
            refine va_ialdN hx hb hK hP 3 0 rfl rfl (k := i) (by omega) (by decide) dX6_write_302 ?_
            refine lv_aload_n hx hb dX6_write_303 rfl (lv_at hl 2 rfl) ?_
            refine va_get (D := D) (ci := 6) (v := .ref m_ot) (C := RX6) (T := TX6) (N := 28) hx hb hts i_X6 hown hK hP 0 rfl rfl 6 (by decide) w_8 (fun _ h9 => h9) rfl dX6_write_304 ?_
            refine lv_iload_n hx hb dX6_write_307 rfl (lv_at hl 4 rfl) ?_
            refine lv_iload hx hb dX6_write_308 (lv_at hl 6 rfl) ?_
            refine lv_iadd hx hb dX6_write_310 ?_
            refine lv_cv (y := nI (st + j)) (nI_add st j) ?_
            refine va_ialdN hx hb hK hP 4 0 rfl rfl (k := st + j) (by omega) (by decide) dX6_write_311 ?_
            refine lv_icmp_eq (tgt := 319) hx hb dX6_write_312 (by decide) (fun c_312 => ?_) (fun c_312 => ?_)
            · refine lv_iconst (v := 0) hx hb dX6_write_319 (by decide) ?_
              refine lv_istore (lv' := [(8, .int 0), (7, .int 1), (6, .int (nI (px_er op ot om (st + n) (om - i) (n - j)))), (0, .ref mo), (2, .int (nI n)), (3, .int (nI st)), (4, .int (nI i)), (5, .int (nI j))]) hx hb dX6_write_320 hl (by decide) rfl (fun ls hl => ?_)
              refine lv_iload hx hb dX6_write_322 (lv_at hl 1 rfl) ?_
              refine lv_if_eq (tgt := 373) hx hb dX6_write_324 (by decide) (fun c_324 => ?_) (fun c_324 => ?_)
              · exact absurd c_324 (by decide)
              · refine lv_iload hx hb dX6_write_327 (lv_at hl 2 rfl) ?_
                refine lv_iload hx hb dX6_write_329 (lv_at hl 0 rfl) ?_
                refine lv_aload_n hx hb dX6_write_331 rfl (lv_at hl 3 rfl) ?_
                refine va_get (D := D) (ci := 6) (v := .ref m_l) (C := RX6) (T := TX6) (N := 28) hx hb hts i_X6 hown hK hP 0 rfl rfl 17 (by decide) w_5 (fun _ h9 => h9) rfl dX6_write_332 ?_
                refine lv_sipush (v := 301) hx hb dX6_write_335 (by decide) ?_
                refine lv_iload hx hb dX6_write_338 (lv_at hl 6 rfl) ?_
                refine lv_imul hx hb dX6_write_340 ?_
                refine lv_cv (y := nI (301 * i)) (pk_mul 301 i) ?_
                refine lv_iload hx hb dX6_write_341 (lv_at hl 7 rfl) ?_
                refine lv_iadd hx hb dX6_write_343 ?_
                refine lv_cv (y := nI (301 * i + j)) (nI_add (301 * i) j) ?_
                refine lv_sipush (v := 302) hx hb dX6_write_344 (by decide) ?_
                refine lv_iadd hx hb dX6_write_347 ?_
                refine lv_cv (y := nI (301 * i + j + 302)) (nI_add (301 * i + j) 302) ?_
                refine va_ialdN hx hb hK hP 12 0 rfl rfl (k := 301 * i + j + 302) (by omega) (by decide) dX6_write_348 ?_
                refine lv_cv (y := nI (px_er op ot om (st + n) (om - (i + 1)) (n - (j + 1)))) ((by rw [show 301 * i + j + 302 = 301 * (i + 1) + (j + 1) by omega]; exact hd9 (i + 1) (by omega) (j + 1) (by omega))) ?_
                refine lv_iadd hx hb dX6_write_349 ?_
                refine lv_cv (y := nI (0 + (px_er op ot om (st + n) (om - (i + 1)) (n - (j + 1))))) (nI_add 0 (px_er op ot om (st + n) (om - (i + 1)) (n - (j + 1)))) ?_
                refine lv_icmp_ne (tgt := 373) hx hb dX6_write_350 (by decide) (fun c_350 => ?_) (fun c_350 => ?_)
                · have k_350 : ¬ (px_er op ot om (st + n) (om - i) (n - j) = 0 + (px_er op ot om (st + n) (om - (i + 1)) (n - (j + 1)))) := fun q => c_350 ((nI_eq (a := px_er op ot om (st + n) (om - i) (n - j)) (b := 0 + (px_er op ot om (st + n) (om - (i + 1)) (n - (j + 1)))) (by omega) (by omega)).mpr q)
                  refine lv_iload hx hb dX6_write_373 (lv_at hl 6 rfl) ?_
                  refine lv_aload_n hx hb dX6_write_375 rfl (lv_at hl 3 rfl) ?_
                  refine va_get (D := D) (ci := 6) (v := .int (nI om)) (C := RX6) (T := TX6) (N := 28) hx hb hts i_X6 hown hK hP 0 rfl rfl 7 (by decide) w_3 (fun _ h9 => h9) rfl dX6_write_376 ?_
                  refine lv_icmp_ge (tgt := 423) hx hb dX6_write_379 (by decide) (fun c_379 => ?_) (fun c_379 => ?_)
                  · have k_379 : om ≤ i := (nI_leI (a := om) (b := i) (by omega) (by omega)).mp c_379
                    exact absurd k_379 (by omega)
                  · have k_379 : ¬ (om ≤ i) := fun q => c_379 ((nI_leI (a := om) (b := i) (by omega) (by omega)).mpr q)
                    refine lv_iload hx hb dX6_write_382 (lv_at hl 2 rfl) ?_
                    refine lv_iconst (v := 1) hx hb dX6_write_384 (by decide) ?_
                    refine lv_aload_n hx hb dX6_write_385 rfl (lv_at hl 3 rfl) ?_
                    refine va_get (D := D) (ci := 6) (v := .ref m_l) (C := RX6) (T := TX6) (N := 28) hx hb hts i_X6 hown hK hP 0 rfl rfl 17 (by decide) w_5 (fun _ h9 => h9) rfl dX6_write_386 ?_
                    refine lv_sipush (v := 301) hx hb dX6_write_389 (by decide) ?_
                    refine lv_iload hx hb dX6_write_392 (lv_at hl 6 rfl) ?_
                    refine lv_imul hx hb dX6_write_394 ?_
                    refine lv_cv (y := nI (301 * i)) (pk_mul 301 i) ?_
                    refine lv_iload hx hb dX6_write_395 (lv_at hl 7 rfl) ?_
                    refine lv_iadd hx hb dX6_write_397 ?_
                    refine lv_cv (y := nI (301 * i + j)) (nI_add (301 * i) j) ?_
                    refine lv_sipush (v := 301) hx hb dX6_write_398 (by decide) ?_
                    refine lv_iadd hx hb dX6_write_401 ?_
                    refine lv_cv (y := nI (301 * i + j + 301)) (nI_add (301 * i + j) 301) ?_
                    refine va_ialdN hx hb hK hP 12 0 rfl rfl (k := 301 * i + j + 301) (by omega) (by decide) dX6_write_402 ?_
                    refine lv_cv (y := nI (px_er op ot om (st + n) (om - (i + 1)) (n - j))) ((by rw [show 301 * i + j + 301 = 301 * (i + 1) + j by omega]; exact hd9 (i + 1) (by omega) j (by omega))) ?_
                    refine lv_iadd hx hb dX6_write_403 ?_
                    refine lv_cv (y := nI (1 + (px_er op ot om (st + n) (om - (i + 1)) (n - j)))) (nI_add 1 (px_er op ot om (st + n) (om - (i + 1)) (n - j))) ?_
                    refine lv_icmp_ne (tgt := 423) hx hb dX6_write_404 (by decide) (fun c_404 => ?_) (fun c_404 => ?_)
                    · have k_404 : ¬ (px_er op ot om (st + n) (om - i) (n - j) = 1 + (px_er op ot om (st + n) (om - (i + 1)) (n - j))) := fun q => c_404 ((nI_eq (a := px_er op ot om (st + n) (om - i) (n - j)) (b := 1 + (px_er op ot om (st + n) (om - (i + 1)) (n - j))) (by omega) (by omega)).mpr q)
                      refine lv_aload_n hx hb dX6_write_423 rfl (lv_at hl 3 rfl) ?_
                      refine va_get (D := D) (ci := 6) (v := .ref m_sc) (C := RX6) (T := TX6) (N := 28) hx hb hts i_X6 hown hK hP 0 rfl rfl 19 (by decide) w_6 (fun _ h9 => h9) rfl dX6_write_424 ?_
                      refine lv_aload_n hx hb dX6_write_427 rfl (lv_at hl 3 rfl) ?_
                      refine va_get (D := D) (ci := 6) (v := .int (nI k)) (C := RX6) (T := TX6) (N := 28) hx hb hts i_X6 hown hK hP 0 rfl rfl 18 (by decide) w_4 (fun _ h9 => h9) rfl dX6_write_428 ?_
                      refine lv_iconst (v := 3) hx hb dX6_write_431 (by decide) ?_
                      refine va_iastN hx hb hK hP hD hS 13 0 rfl rfl (k := k) (x := 3) (by omega) (by decide) dX6_write_432 (fun H locs hP hD hS => ?_)
                      have hP : va_P D vwCl [(mo, .inr (6, [.int th, .ref m_p, .ref m_t, .int (nI mm), .int (nI nn), .ref m_op, .ref m_ot, .int (nI om), .int (nI on), .int (nI cnt), .ref m_e, .ref m_d, .ref m_s, .ref m_b, .ref m_n, .ref m_bb, .ref m_bg, .ref m_l, .int (nI k), .ref m_sc, .ref m_so, .int oo, .int xx, .ref m_bo, .ref m_ac, .ref m_dn, .int bp, .int bt])), (m_p, .inl (cI, 150, .inl pp)), (m_t, .inl (cI, 300, .inl tt)), (m_op, .inl (cI, 150, .inl op)), (m_ot, .inl (cI, 300, .inl ot)), (m_e, .inl (cI, 301, .inl fe)), (m_d, .inl (cI, 301, .inl fd)), (m_s, .inl (cI, 301, .inl fs)), (m_b, .inl (cI, 151, .inl vb)), (m_n, .inl (cI, 151, .inl vn)), (m_bb, .inl (cI, 151, .inl vbb)), (m_bg, .inl (cI, 151, .inl vbg)), (m_l, .inl (cI, 45451, .inl w1)), (m_sc, .inl (cI, 451, .inl (upd sc9 k 3))), (m_so, .inl (cI, 64, .inl vso)), (m_bo, .inl (cI, 301, .inl vbo)), (m_ac, .inl (cI, 301, .inl vac)), (m_dn, .inl (cI, 301, .inl vdn))] H := hP
                      have hD : va_D A [(mo, .inr (6, [.int th, .ref m_p, .ref m_t, .int (nI mm), .int (nI nn), .ref m_op, .ref m_ot, .int (nI om), .int (nI on), .int (nI cnt), .ref m_e, .ref m_d, .ref m_s, .ref m_b, .ref m_n, .ref m_bb, .ref m_bg, .ref m_l, .int (nI k), .ref m_sc, .ref m_so, .int oo, .int xx, .ref m_bo, .ref m_ac, .ref m_dn, .int bp, .int bt])), (m_p, .inl (cI, 150, .inl pp)), (m_t, .inl (cI, 300, .inl tt)), (m_op, .inl (cI, 150, .inl op)), (m_ot, .inl (cI, 300, .inl ot)), (m_e, .inl (cI, 301, .inl fe)), (m_d, .inl (cI, 301, .inl fd)), (m_s, .inl (cI, 301, .inl fs)), (m_b, .inl (cI, 151, .inl vb)), (m_n, .inl (cI, 151, .inl vn)), (m_bb, .inl (cI, 151, .inl vbb)), (m_bg, .inl (cI, 151, .inl vbg)), (m_l, .inl (cI, 45451, .inl w1)), (m_sc, .inl (cI, 451, .inl (upd sc9 k 3))), (m_so, .inl (cI, 64, .inl vso)), (m_bo, .inl (cI, 301, .inl vbo)), (m_ac, .inl (cI, 301, .inl vac)), (m_dn, .inl (cI, 301, .inl vdn))] := hD
                      refine lv_iinc (v := nI (j + 1)) (lv' := [(5, .int (nI (j + 1))), (8, .int 0), (7, .int 1), (6, .int (nI (px_er op ot om (st + n) (om - i) (n - j)))), (0, .ref mo), (2, .int (nI n)), (3, .int (nI st)), (4, .int (nI i))]) hx hb dX6_write_433 hl (k := 7) rfl (nI_add j 1) (by decide) rfl (fun ls hl => ?_)
                      refine lv_aload_n hx hb dX6_write_436 rfl (lv_at hl 4 rfl) ?_
                      refine lv_dup hx hb dX6_write_437 rfl ?_
                      refine va_get (D := D) (ci := 6) (v := .int (nI k)) (C := RX6) (T := TX6) (N := 28) hx hb hts i_X6 hown hK hP 0 rfl rfl 18 (by decide) w_4 (fun _ h9 => h9) rfl dX6_write_438 ?_
                      refine lv_iconst (v := 1) hx hb dX6_write_441 (by decide) ?_
                      refine lv_iadd hx hb dX6_write_442 ?_
                      refine lv_cv (y := nI (k + 1)) (nI_1 k) ?_
                      refine va_put (D := D) (ci := 6) (v := .int (nI (k + 1))) (ty := .int) (C := RX6) (T := TX6) (N := 28) hx hb hts i_X6 tyX6 tyX6_ok nmX6 hown hK hP hD hS 0 rfl rfl 18 (by decide) w_4 (fun _ h9 => h9) rfl (by decide +kernel) rfl rfl (Nat.le_of_ble_eq_true rfl) dX6_write_443 (fun H locs hP hD hS => ?_)
                      have hP : va_P D vwCl [(mo, .inr (6, [.int th, .ref m_p, .ref m_t, .int (nI mm), .int (nI nn), .ref m_op, .ref m_ot, .int (nI om), .int (nI on), .int (nI cnt), .ref m_e, .ref m_d, .ref m_s, .ref m_b, .ref m_n, .ref m_bb, .ref m_bg, .ref m_l, .int (nI (k + 1)), .ref m_sc, .ref m_so, .int oo, .int xx, .ref m_bo, .ref m_ac, .ref m_dn, .int bp, .int bt])), (m_p, .inl (cI, 150, .inl pp)), (m_t, .inl (cI, 300, .inl tt)), (m_op, .inl (cI, 150, .inl op)), (m_ot, .inl (cI, 300, .inl ot)), (m_e, .inl (cI, 301, .inl fe)), (m_d, .inl (cI, 301, .inl fd)), (m_s, .inl (cI, 301, .inl fs)), (m_b, .inl (cI, 151, .inl vb)), (m_n, .inl (cI, 151, .inl vn)), (m_bb, .inl (cI, 151, .inl vbb)), (m_bg, .inl (cI, 151, .inl vbg)), (m_l, .inl (cI, 45451, .inl w1)), (m_sc, .inl (cI, 451, .inl (upd sc9 k 3))), (m_so, .inl (cI, 64, .inl vso)), (m_bo, .inl (cI, 301, .inl vbo)), (m_ac, .inl (cI, 301, .inl vac)), (m_dn, .inl (cI, 301, .inl vdn))] H := hP
                      have hD : va_D A [(mo, .inr (6, [.int th, .ref m_p, .ref m_t, .int (nI mm), .int (nI nn), .ref m_op, .ref m_ot, .int (nI om), .int (nI on), .int (nI cnt), .ref m_e, .ref m_d, .ref m_s, .ref m_b, .ref m_n, .ref m_bb, .ref m_bg, .ref m_l, .int (nI (k + 1)), .ref m_sc, .ref m_so, .int oo, .int xx, .ref m_bo, .ref m_ac, .ref m_dn, .int bp, .int bt])), (m_p, .inl (cI, 150, .inl pp)), (m_t, .inl (cI, 300, .inl tt)), (m_op, .inl (cI, 150, .inl op)), (m_ot, .inl (cI, 300, .inl ot)), (m_e, .inl (cI, 301, .inl fe)), (m_d, .inl (cI, 301, .inl fd)), (m_s, .inl (cI, 301, .inl fs)), (m_b, .inl (cI, 151, .inl vb)), (m_n, .inl (cI, 151, .inl vn)), (m_bb, .inl (cI, 151, .inl vbb)), (m_bg, .inl (cI, 151, .inl vbg)), (m_l, .inl (cI, 45451, .inl w1)), (m_sc, .inl (cI, 451, .inl (upd sc9 k 3))), (m_so, .inl (cI, 64, .inl vso)), (m_bo, .inl (cI, 301, .inl vbo)), (m_ac, .inl (cI, 301, .inl vac)), (m_dn, .inl (cI, 301, .inl vdn))] := hD
                      refine lv_goto (tgt := 238) hx hb dX6_write_446 (by decide) ?_
                      have hs9 : px_st op ot om (st + n) i (st + j) = 3 := by rw [px_st_r]; exact (by have ec : px_ch op ot i (st + j) = 0 := if_pos c_312; rw [if_neg (by omega), if_neg (by omega), ec, if_neg (by omega), if_neg (by omega)])
                      exact ih_238 (om + n - (i + (j + 1))) _ _ _ (by omega) ⟨k + 1, i, j + 1, upd sc9 k 3, px_tr_3 htr hs9, px_un_s htr hun (by omega), px_sc_s htr hsc hs9, rfl, hP, hD, hS, lv_sub hl [4, 5, 6, 7, 0] rfl⟩
                    · have k_404 : px_er op ot om (st + n) (om - i) (n - j) = 1 + (px_er op ot om (st + n) (om - (i + 1)) (n - j)) := (nI_eq (a := px_er op ot om (st + n) (om - i) (n - j)) (b := 1 + (px_er op ot om (st + n) (om - (i + 1)) (n - j))) (by omega) (by omega)).mp c_404
                      refine lv_aload_n hx hb dX6_write_407 rfl (lv_at hl 3 rfl) ?_
                      refine va_get (D := D) (ci := 6) (v := .ref m_sc) (C := RX6) (T := TX6) (N := 28) hx hb hts i_X6 hown hK hP 0 rfl rfl 19 (by decide) w_6 (fun _ h9 => h9) rfl dX6_write_408 ?_
                      refine lv_aload_n hx hb dX6_write_411 rfl (lv_at hl 3 rfl) ?_
                      refine va_get (D := D) (ci := 6) (v := .int (nI k)) (C := RX6) (T := TX6) (N := 28) hx hb hts i_X6 hown hK hP 0 rfl rfl 18 (by decide) w_4 (fun _ h9 => h9) rfl dX6_write_412 ?_
                      refine lv_iconst (v := 2) hx hb dX6_write_415 (by decide) ?_
                      refine va_iastN hx hb hK hP hD hS 13 0 rfl rfl (k := k) (x := 2) (by omega) (by decide) dX6_write_416 (fun H locs hP hD hS => ?_)
                      have hP : va_P D vwCl [(mo, .inr (6, [.int th, .ref m_p, .ref m_t, .int (nI mm), .int (nI nn), .ref m_op, .ref m_ot, .int (nI om), .int (nI on), .int (nI cnt), .ref m_e, .ref m_d, .ref m_s, .ref m_b, .ref m_n, .ref m_bb, .ref m_bg, .ref m_l, .int (nI k), .ref m_sc, .ref m_so, .int oo, .int xx, .ref m_bo, .ref m_ac, .ref m_dn, .int bp, .int bt])), (m_p, .inl (cI, 150, .inl pp)), (m_t, .inl (cI, 300, .inl tt)), (m_op, .inl (cI, 150, .inl op)), (m_ot, .inl (cI, 300, .inl ot)), (m_e, .inl (cI, 301, .inl fe)), (m_d, .inl (cI, 301, .inl fd)), (m_s, .inl (cI, 301, .inl fs)), (m_b, .inl (cI, 151, .inl vb)), (m_n, .inl (cI, 151, .inl vn)), (m_bb, .inl (cI, 151, .inl vbb)), (m_bg, .inl (cI, 151, .inl vbg)), (m_l, .inl (cI, 45451, .inl w1)), (m_sc, .inl (cI, 451, .inl (upd sc9 k 2))), (m_so, .inl (cI, 64, .inl vso)), (m_bo, .inl (cI, 301, .inl vbo)), (m_ac, .inl (cI, 301, .inl vac)), (m_dn, .inl (cI, 301, .inl vdn))] H := hP
                      have hD : va_D A [(mo, .inr (6, [.int th, .ref m_p, .ref m_t, .int (nI mm), .int (nI nn), .ref m_op, .ref m_ot, .int (nI om), .int (nI on), .int (nI cnt), .ref m_e, .ref m_d, .ref m_s, .ref m_b, .ref m_n, .ref m_bb, .ref m_bg, .ref m_l, .int (nI k), .ref m_sc, .ref m_so, .int oo, .int xx, .ref m_bo, .ref m_ac, .ref m_dn, .int bp, .int bt])), (m_p, .inl (cI, 150, .inl pp)), (m_t, .inl (cI, 300, .inl tt)), (m_op, .inl (cI, 150, .inl op)), (m_ot, .inl (cI, 300, .inl ot)), (m_e, .inl (cI, 301, .inl fe)), (m_d, .inl (cI, 301, .inl fd)), (m_s, .inl (cI, 301, .inl fs)), (m_b, .inl (cI, 151, .inl vb)), (m_n, .inl (cI, 151, .inl vn)), (m_bb, .inl (cI, 151, .inl vbb)), (m_bg, .inl (cI, 151, .inl vbg)), (m_l, .inl (cI, 45451, .inl w1)), (m_sc, .inl (cI, 451, .inl (upd sc9 k 2))), (m_so, .inl (cI, 64, .inl vso)), (m_bo, .inl (cI, 301, .inl vbo)), (m_ac, .inl (cI, 301, .inl vac)), (m_dn, .inl (cI, 301, .inl vdn))] := hD
                      refine lv_iinc (v := nI (i + 1)) (lv' := [(4, .int (nI (i + 1))), (8, .int 0), (7, .int 1), (6, .int (nI (px_er op ot om (st + n) (om - i) (n - j)))), (0, .ref mo), (2, .int (nI n)), (3, .int (nI st)), (5, .int (nI j))]) hx hb dX6_write_417 hl (k := 6) rfl (nI_add i 1) (by decide) rfl (fun ls hl => ?_)
                      refine lv_goto (tgt := 436) hx hb dX6_write_420 (by decide) ?_
                      refine lv_aload_n hx hb dX6_write_436 rfl (lv_at hl 4 rfl) ?_
                      refine lv_dup hx hb dX6_write_437 rfl ?_
                      refine va_get (D := D) (ci := 6) (v := .int (nI k)) (C := RX6) (T := TX6) (N := 28) hx hb hts i_X6 hown hK hP 0 rfl rfl 18 (by decide) w_4 (fun _ h9 => h9) rfl dX6_write_438 ?_
                      refine lv_iconst (v := 1) hx hb dX6_write_441 (by decide) ?_
                      refine lv_iadd hx hb dX6_write_442 ?_
                      refine lv_cv (y := nI (k + 1)) (nI_1 k) ?_
                      refine va_put (D := D) (ci := 6) (v := .int (nI (k + 1))) (ty := .int) (C := RX6) (T := TX6) (N := 28) hx hb hts i_X6 tyX6 tyX6_ok nmX6 hown hK hP hD hS 0 rfl rfl 18 (by decide) w_4 (fun _ h9 => h9) rfl (by decide +kernel) rfl rfl (Nat.le_of_ble_eq_true rfl) dX6_write_443 (fun H locs hP hD hS => ?_)
                      have hP : va_P D vwCl [(mo, .inr (6, [.int th, .ref m_p, .ref m_t, .int (nI mm), .int (nI nn), .ref m_op, .ref m_ot, .int (nI om), .int (nI on), .int (nI cnt), .ref m_e, .ref m_d, .ref m_s, .ref m_b, .ref m_n, .ref m_bb, .ref m_bg, .ref m_l, .int (nI (k + 1)), .ref m_sc, .ref m_so, .int oo, .int xx, .ref m_bo, .ref m_ac, .ref m_dn, .int bp, .int bt])), (m_p, .inl (cI, 150, .inl pp)), (m_t, .inl (cI, 300, .inl tt)), (m_op, .inl (cI, 150, .inl op)), (m_ot, .inl (cI, 300, .inl ot)), (m_e, .inl (cI, 301, .inl fe)), (m_d, .inl (cI, 301, .inl fd)), (m_s, .inl (cI, 301, .inl fs)), (m_b, .inl (cI, 151, .inl vb)), (m_n, .inl (cI, 151, .inl vn)), (m_bb, .inl (cI, 151, .inl vbb)), (m_bg, .inl (cI, 151, .inl vbg)), (m_l, .inl (cI, 45451, .inl w1)), (m_sc, .inl (cI, 451, .inl (upd sc9 k 2))), (m_so, .inl (cI, 64, .inl vso)), (m_bo, .inl (cI, 301, .inl vbo)), (m_ac, .inl (cI, 301, .inl vac)), (m_dn, .inl (cI, 301, .inl vdn))] H := hP
                      have hD : va_D A [(mo, .inr (6, [.int th, .ref m_p, .ref m_t, .int (nI mm), .int (nI nn), .ref m_op, .ref m_ot, .int (nI om), .int (nI on), .int (nI cnt), .ref m_e, .ref m_d, .ref m_s, .ref m_b, .ref m_n, .ref m_bb, .ref m_bg, .ref m_l, .int (nI (k + 1)), .ref m_sc, .ref m_so, .int oo, .int xx, .ref m_bo, .ref m_ac, .ref m_dn, .int bp, .int bt])), (m_p, .inl (cI, 150, .inl pp)), (m_t, .inl (cI, 300, .inl tt)), (m_op, .inl (cI, 150, .inl op)), (m_ot, .inl (cI, 300, .inl ot)), (m_e, .inl (cI, 301, .inl fe)), (m_d, .inl (cI, 301, .inl fd)), (m_s, .inl (cI, 301, .inl fs)), (m_b, .inl (cI, 151, .inl vb)), (m_n, .inl (cI, 151, .inl vn)), (m_bb, .inl (cI, 151, .inl vbb)), (m_bg, .inl (cI, 151, .inl vbg)), (m_l, .inl (cI, 45451, .inl w1)), (m_sc, .inl (cI, 451, .inl (upd sc9 k 2))), (m_so, .inl (cI, 64, .inl vso)), (m_bo, .inl (cI, 301, .inl vbo)), (m_ac, .inl (cI, 301, .inl vac)), (m_dn, .inl (cI, 301, .inl vdn))] := hD
                      refine lv_goto (tgt := 238) hx hb dX6_write_446 (by decide) ?_
                      have hs9 : px_st op ot om (st + n) i (st + j) = 2 := by rw [px_st_r]; exact (by have ec : px_ch op ot i (st + j) = 0 := if_pos c_312; rw [if_neg (by omega), if_neg (by omega), ec, if_neg (by omega), if_pos (by omega)])
                      exact ih_238 (om + n - (i + 1 + (j))) _ _ _ (by omega) ⟨k + 1, i + 1, j, upd sc9 k 2, px_tr_2 htr hs9, px_un_s htr hun (by omega), px_sc_s htr hsc hs9, rfl, hP, hD, hS, lv_sub hl [4, 5, 6, 0, 7] rfl⟩
                · have k_350 : px_er op ot om (st + n) (om - i) (n - j) = 0 + (px_er op ot om (st + n) (om - (i + 1)) (n - (j + 1))) := (nI_eq (a := px_er op ot om (st + n) (om - i) (n - j)) (b := 0 + (px_er op ot om (st + n) (om - (i + 1)) (n - (j + 1)))) (by omega) (by omega)).mp c_350
                  refine lv_aload_n hx hb dX6_write_353 rfl (lv_at hl 3 rfl) ?_
                  refine va_get (D := D) (ci := 6) (v := .ref m_sc) (C := RX6) (T := TX6) (N := 28) hx hb hts i_X6 hown hK hP 0 rfl rfl 19 (by decide) w_6 (fun _ h9 => h9) rfl dX6_write_354 ?_
                  refine lv_aload_n hx hb dX6_write_357 rfl (lv_at hl 3 rfl) ?_
                  refine va_get (D := D) (ci := 6) (v := .int (nI k)) (C := RX6) (T := TX6) (N := 28) hx hb hts i_X6 hown hK hP 0 rfl rfl 18 (by decide) w_4 (fun _ h9 => h9) rfl dX6_write_358 ?_
                  refine lv_iload hx hb dX6_write_361 (lv_at hl 0 rfl) ?_
                  refine va_iastN hx hb hK hP hD hS 13 0 rfl rfl (k := k) (x := 0) (by omega) (by decide) dX6_write_363 (fun H locs hP hD hS => ?_)
                  have hP : va_P D vwCl [(mo, .inr (6, [.int th, .ref m_p, .ref m_t, .int (nI mm), .int (nI nn), .ref m_op, .ref m_ot, .int (nI om), .int (nI on), .int (nI cnt), .ref m_e, .ref m_d, .ref m_s, .ref m_b, .ref m_n, .ref m_bb, .ref m_bg, .ref m_l, .int (nI k), .ref m_sc, .ref m_so, .int oo, .int xx, .ref m_bo, .ref m_ac, .ref m_dn, .int bp, .int bt])), (m_p, .inl (cI, 150, .inl pp)), (m_t, .inl (cI, 300, .inl tt)), (m_op, .inl (cI, 150, .inl op)), (m_ot, .inl (cI, 300, .inl ot)), (m_e, .inl (cI, 301, .inl fe)), (m_d, .inl (cI, 301, .inl fd)), (m_s, .inl (cI, 301, .inl fs)), (m_b, .inl (cI, 151, .inl vb)), (m_n, .inl (cI, 151, .inl vn)), (m_bb, .inl (cI, 151, .inl vbb)), (m_bg, .inl (cI, 151, .inl vbg)), (m_l, .inl (cI, 45451, .inl w1)), (m_sc, .inl (cI, 451, .inl (upd sc9 k 0))), (m_so, .inl (cI, 64, .inl vso)), (m_bo, .inl (cI, 301, .inl vbo)), (m_ac, .inl (cI, 301, .inl vac)), (m_dn, .inl (cI, 301, .inl vdn))] H := hP
                  have hD : va_D A [(mo, .inr (6, [.int th, .ref m_p, .ref m_t, .int (nI mm), .int (nI nn), .ref m_op, .ref m_ot, .int (nI om), .int (nI on), .int (nI cnt), .ref m_e, .ref m_d, .ref m_s, .ref m_b, .ref m_n, .ref m_bb, .ref m_bg, .ref m_l, .int (nI k), .ref m_sc, .ref m_so, .int oo, .int xx, .ref m_bo, .ref m_ac, .ref m_dn, .int bp, .int bt])), (m_p, .inl (cI, 150, .inl pp)), (m_t, .inl (cI, 300, .inl tt)), (m_op, .inl (cI, 150, .inl op)), (m_ot, .inl (cI, 300, .inl ot)), (m_e, .inl (cI, 301, .inl fe)), (m_d, .inl (cI, 301, .inl fd)), (m_s, .inl (cI, 301, .inl fs)), (m_b, .inl (cI, 151, .inl vb)), (m_n, .inl (cI, 151, .inl vn)), (m_bb, .inl (cI, 151, .inl vbb)), (m_bg, .inl (cI, 151, .inl vbg)), (m_l, .inl (cI, 45451, .inl w1)), (m_sc, .inl (cI, 451, .inl (upd sc9 k 0))), (m_so, .inl (cI, 64, .inl vso)), (m_bo, .inl (cI, 301, .inl vbo)), (m_ac, .inl (cI, 301, .inl vac)), (m_dn, .inl (cI, 301, .inl vdn))] := hD
                  refine lv_iinc (v := nI (i + 1)) (lv' := [(4, .int (nI (i + 1))), (8, .int 0), (7, .int 1), (6, .int (nI (px_er op ot om (st + n) (om - i) (n - j)))), (0, .ref mo), (2, .int (nI n)), (3, .int (nI st)), (5, .int (nI j))]) hx hb dX6_write_364 hl (k := 6) rfl (nI_add i 1) (by decide) rfl (fun ls hl => ?_)
                  refine lv_iinc (v := nI (j + 1)) (lv' := [(5, .int (nI (j + 1))), (4, .int (nI (i + 1))), (8, .int 0), (7, .int 1), (6, .int (nI (px_er op ot om (st + n) (om - i) (n - j)))), (0, .ref mo), (2, .int (nI n)), (3, .int (nI st))]) hx hb dX6_write_367 hl (k := 7) rfl (nI_add j 1) (by decide) rfl (fun ls hl => ?_)
                  refine lv_goto (tgt := 436) hx hb dX6_write_370 (by decide) ?_
                  refine lv_aload_n hx hb dX6_write_436 rfl (lv_at hl 5 rfl) ?_
                  refine lv_dup hx hb dX6_write_437 rfl ?_
                  refine va_get (D := D) (ci := 6) (v := .int (nI k)) (C := RX6) (T := TX6) (N := 28) hx hb hts i_X6 hown hK hP 0 rfl rfl 18 (by decide) w_4 (fun _ h9 => h9) rfl dX6_write_438 ?_
                  refine lv_iconst (v := 1) hx hb dX6_write_441 (by decide) ?_
                  refine lv_iadd hx hb dX6_write_442 ?_
                  refine lv_cv (y := nI (k + 1)) (nI_1 k) ?_
                  refine va_put (D := D) (ci := 6) (v := .int (nI (k + 1))) (ty := .int) (C := RX6) (T := TX6) (N := 28) hx hb hts i_X6 tyX6 tyX6_ok nmX6 hown hK hP hD hS 0 rfl rfl 18 (by decide) w_4 (fun _ h9 => h9) rfl (by decide +kernel) rfl rfl (Nat.le_of_ble_eq_true rfl) dX6_write_443 (fun H locs hP hD hS => ?_)
                  have hP : va_P D vwCl [(mo, .inr (6, [.int th, .ref m_p, .ref m_t, .int (nI mm), .int (nI nn), .ref m_op, .ref m_ot, .int (nI om), .int (nI on), .int (nI cnt), .ref m_e, .ref m_d, .ref m_s, .ref m_b, .ref m_n, .ref m_bb, .ref m_bg, .ref m_l, .int (nI (k + 1)), .ref m_sc, .ref m_so, .int oo, .int xx, .ref m_bo, .ref m_ac, .ref m_dn, .int bp, .int bt])), (m_p, .inl (cI, 150, .inl pp)), (m_t, .inl (cI, 300, .inl tt)), (m_op, .inl (cI, 150, .inl op)), (m_ot, .inl (cI, 300, .inl ot)), (m_e, .inl (cI, 301, .inl fe)), (m_d, .inl (cI, 301, .inl fd)), (m_s, .inl (cI, 301, .inl fs)), (m_b, .inl (cI, 151, .inl vb)), (m_n, .inl (cI, 151, .inl vn)), (m_bb, .inl (cI, 151, .inl vbb)), (m_bg, .inl (cI, 151, .inl vbg)), (m_l, .inl (cI, 45451, .inl w1)), (m_sc, .inl (cI, 451, .inl (upd sc9 k 0))), (m_so, .inl (cI, 64, .inl vso)), (m_bo, .inl (cI, 301, .inl vbo)), (m_ac, .inl (cI, 301, .inl vac)), (m_dn, .inl (cI, 301, .inl vdn))] H := hP
                  have hD : va_D A [(mo, .inr (6, [.int th, .ref m_p, .ref m_t, .int (nI mm), .int (nI nn), .ref m_op, .ref m_ot, .int (nI om), .int (nI on), .int (nI cnt), .ref m_e, .ref m_d, .ref m_s, .ref m_b, .ref m_n, .ref m_bb, .ref m_bg, .ref m_l, .int (nI (k + 1)), .ref m_sc, .ref m_so, .int oo, .int xx, .ref m_bo, .ref m_ac, .ref m_dn, .int bp, .int bt])), (m_p, .inl (cI, 150, .inl pp)), (m_t, .inl (cI, 300, .inl tt)), (m_op, .inl (cI, 150, .inl op)), (m_ot, .inl (cI, 300, .inl ot)), (m_e, .inl (cI, 301, .inl fe)), (m_d, .inl (cI, 301, .inl fd)), (m_s, .inl (cI, 301, .inl fs)), (m_b, .inl (cI, 151, .inl vb)), (m_n, .inl (cI, 151, .inl vn)), (m_bb, .inl (cI, 151, .inl vbb)), (m_bg, .inl (cI, 151, .inl vbg)), (m_l, .inl (cI, 45451, .inl w1)), (m_sc, .inl (cI, 451, .inl (upd sc9 k 0))), (m_so, .inl (cI, 64, .inl vso)), (m_bo, .inl (cI, 301, .inl vbo)), (m_ac, .inl (cI, 301, .inl vac)), (m_dn, .inl (cI, 301, .inl vdn))] := hD
                  refine lv_goto (tgt := 238) hx hb dX6_write_446 (by decide) ?_
                  have hs9 : px_st op ot om (st + n) i (st + j) = 0 := by rw [px_st_r]; exact (by have ec : px_ch op ot i (st + j) = 0 := if_pos c_312; rw [if_neg (by omega), if_neg (by omega), ec, if_pos (by omega)]; rfl)
                  exact ih_238 (om + n - (i + 1 + (j + 1))) _ _ _ (by omega) ⟨k + 1, i + 1, j + 1, upd sc9 k 0, px_tr_0 htr hs9, px_un_s htr hun (by omega), px_sc_s htr hsc hs9, rfl, hP, hD, hS, lv_sub hl [5, 6, 7, 1, 0] rfl⟩
            · refine lv_iconst (v := 1) hx hb dX6_write_315 (by decide) ?_
              refine lv_goto (tgt := 320) hx hb dX6_write_316 (by decide) ?_
              refine lv_istore (lv' := [(8, .int 1), (7, .int 1), (6, .int (nI (px_er op ot om (st + n) (om - i) (n - j)))), (0, .ref mo), (2, .int (nI n)), (3, .int (nI st)), (4, .int (nI i)), (5, .int (nI j))]) hx hb dX6_write_320 hl (by decide) rfl (fun ls hl => ?_)
              refine lv_iload hx hb dX6_write_322 (lv_at hl 1 rfl) ?_
              refine lv_if_eq (tgt := 373) hx hb dX6_write_324 (by decide) (fun c_324 => ?_) (fun c_324 => ?_)
              · exact absurd c_324 (by decide)
              · refine lv_iload hx hb dX6_write_327 (lv_at hl 2 rfl) ?_
                refine lv_iload hx hb dX6_write_329 (lv_at hl 0 rfl) ?_
                refine lv_aload_n hx hb dX6_write_331 rfl (lv_at hl 3 rfl) ?_
                refine va_get (D := D) (ci := 6) (v := .ref m_l) (C := RX6) (T := TX6) (N := 28) hx hb hts i_X6 hown hK hP 0 rfl rfl 17 (by decide) w_5 (fun _ h9 => h9) rfl dX6_write_332 ?_
                refine lv_sipush (v := 301) hx hb dX6_write_335 (by decide) ?_
                refine lv_iload hx hb dX6_write_338 (lv_at hl 6 rfl) ?_
                refine lv_imul hx hb dX6_write_340 ?_
                refine lv_cv (y := nI (301 * i)) (pk_mul 301 i) ?_
                refine lv_iload hx hb dX6_write_341 (lv_at hl 7 rfl) ?_
                refine lv_iadd hx hb dX6_write_343 ?_
                refine lv_cv (y := nI (301 * i + j)) (nI_add (301 * i) j) ?_
                refine lv_sipush (v := 302) hx hb dX6_write_344 (by decide) ?_
                refine lv_iadd hx hb dX6_write_347 ?_
                refine lv_cv (y := nI (301 * i + j + 302)) (nI_add (301 * i + j) 302) ?_
                refine va_ialdN hx hb hK hP 12 0 rfl rfl (k := 301 * i + j + 302) (by omega) (by decide) dX6_write_348 ?_
                refine lv_cv (y := nI (px_er op ot om (st + n) (om - (i + 1)) (n - (j + 1)))) ((by rw [show 301 * i + j + 302 = 301 * (i + 1) + (j + 1) by omega]; exact hd9 (i + 1) (by omega) (j + 1) (by omega))) ?_
                refine lv_iadd hx hb dX6_write_349 ?_
                refine lv_cv (y := nI (1 + (px_er op ot om (st + n) (om - (i + 1)) (n - (j + 1))))) (nI_add 1 (px_er op ot om (st + n) (om - (i + 1)) (n - (j + 1)))) ?_
                refine lv_icmp_ne (tgt := 373) hx hb dX6_write_350 (by decide) (fun c_350 => ?_) (fun c_350 => ?_)
                · have k_350 : ¬ (px_er op ot om (st + n) (om - i) (n - j) = 1 + (px_er op ot om (st + n) (om - (i + 1)) (n - (j + 1)))) := fun q => c_350 ((nI_eq (a := px_er op ot om (st + n) (om - i) (n - j)) (b := 1 + (px_er op ot om (st + n) (om - (i + 1)) (n - (j + 1)))) (by omega) (by omega)).mpr q)
                  refine lv_iload hx hb dX6_write_373 (lv_at hl 6 rfl) ?_
                  refine lv_aload_n hx hb dX6_write_375 rfl (lv_at hl 3 rfl) ?_
                  refine va_get (D := D) (ci := 6) (v := .int (nI om)) (C := RX6) (T := TX6) (N := 28) hx hb hts i_X6 hown hK hP 0 rfl rfl 7 (by decide) w_3 (fun _ h9 => h9) rfl dX6_write_376 ?_
                  refine lv_icmp_ge (tgt := 423) hx hb dX6_write_379 (by decide) (fun c_379 => ?_) (fun c_379 => ?_)
                  · have k_379 : om ≤ i := (nI_leI (a := om) (b := i) (by omega) (by omega)).mp c_379
                    exact absurd k_379 (by omega)
                  · have k_379 : ¬ (om ≤ i) := fun q => c_379 ((nI_leI (a := om) (b := i) (by omega) (by omega)).mpr q)
                    refine lv_iload hx hb dX6_write_382 (lv_at hl 2 rfl) ?_
                    refine lv_iconst (v := 1) hx hb dX6_write_384 (by decide) ?_
                    refine lv_aload_n hx hb dX6_write_385 rfl (lv_at hl 3 rfl) ?_
                    refine va_get (D := D) (ci := 6) (v := .ref m_l) (C := RX6) (T := TX6) (N := 28) hx hb hts i_X6 hown hK hP 0 rfl rfl 17 (by decide) w_5 (fun _ h9 => h9) rfl dX6_write_386 ?_
                    refine lv_sipush (v := 301) hx hb dX6_write_389 (by decide) ?_
                    refine lv_iload hx hb dX6_write_392 (lv_at hl 6 rfl) ?_
                    refine lv_imul hx hb dX6_write_394 ?_
                    refine lv_cv (y := nI (301 * i)) (pk_mul 301 i) ?_
                    refine lv_iload hx hb dX6_write_395 (lv_at hl 7 rfl) ?_
                    refine lv_iadd hx hb dX6_write_397 ?_
                    refine lv_cv (y := nI (301 * i + j)) (nI_add (301 * i) j) ?_
                    refine lv_sipush (v := 301) hx hb dX6_write_398 (by decide) ?_
                    refine lv_iadd hx hb dX6_write_401 ?_
                    refine lv_cv (y := nI (301 * i + j + 301)) (nI_add (301 * i + j) 301) ?_
                    refine va_ialdN hx hb hK hP 12 0 rfl rfl (k := 301 * i + j + 301) (by omega) (by decide) dX6_write_402 ?_
                    refine lv_cv (y := nI (px_er op ot om (st + n) (om - (i + 1)) (n - j))) ((by rw [show 301 * i + j + 301 = 301 * (i + 1) + j by omega]; exact hd9 (i + 1) (by omega) j (by omega))) ?_
                    refine lv_iadd hx hb dX6_write_403 ?_
                    refine lv_cv (y := nI (1 + (px_er op ot om (st + n) (om - (i + 1)) (n - j)))) (nI_add 1 (px_er op ot om (st + n) (om - (i + 1)) (n - j))) ?_
                    refine lv_icmp_ne (tgt := 423) hx hb dX6_write_404 (by decide) (fun c_404 => ?_) (fun c_404 => ?_)
                    · have k_404 : ¬ (px_er op ot om (st + n) (om - i) (n - j) = 1 + (px_er op ot om (st + n) (om - (i + 1)) (n - j))) := fun q => c_404 ((nI_eq (a := px_er op ot om (st + n) (om - i) (n - j)) (b := 1 + (px_er op ot om (st + n) (om - (i + 1)) (n - j))) (by omega) (by omega)).mpr q)
                      refine lv_aload_n hx hb dX6_write_423 rfl (lv_at hl 3 rfl) ?_
                      refine va_get (D := D) (ci := 6) (v := .ref m_sc) (C := RX6) (T := TX6) (N := 28) hx hb hts i_X6 hown hK hP 0 rfl rfl 19 (by decide) w_6 (fun _ h9 => h9) rfl dX6_write_424 ?_
                      refine lv_aload_n hx hb dX6_write_427 rfl (lv_at hl 3 rfl) ?_
                      refine va_get (D := D) (ci := 6) (v := .int (nI k)) (C := RX6) (T := TX6) (N := 28) hx hb hts i_X6 hown hK hP 0 rfl rfl 18 (by decide) w_4 (fun _ h9 => h9) rfl dX6_write_428 ?_
                      refine lv_iconst (v := 3) hx hb dX6_write_431 (by decide) ?_
                      refine va_iastN hx hb hK hP hD hS 13 0 rfl rfl (k := k) (x := 3) (by omega) (by decide) dX6_write_432 (fun H locs hP hD hS => ?_)
                      have hP : va_P D vwCl [(mo, .inr (6, [.int th, .ref m_p, .ref m_t, .int (nI mm), .int (nI nn), .ref m_op, .ref m_ot, .int (nI om), .int (nI on), .int (nI cnt), .ref m_e, .ref m_d, .ref m_s, .ref m_b, .ref m_n, .ref m_bb, .ref m_bg, .ref m_l, .int (nI k), .ref m_sc, .ref m_so, .int oo, .int xx, .ref m_bo, .ref m_ac, .ref m_dn, .int bp, .int bt])), (m_p, .inl (cI, 150, .inl pp)), (m_t, .inl (cI, 300, .inl tt)), (m_op, .inl (cI, 150, .inl op)), (m_ot, .inl (cI, 300, .inl ot)), (m_e, .inl (cI, 301, .inl fe)), (m_d, .inl (cI, 301, .inl fd)), (m_s, .inl (cI, 301, .inl fs)), (m_b, .inl (cI, 151, .inl vb)), (m_n, .inl (cI, 151, .inl vn)), (m_bb, .inl (cI, 151, .inl vbb)), (m_bg, .inl (cI, 151, .inl vbg)), (m_l, .inl (cI, 45451, .inl w1)), (m_sc, .inl (cI, 451, .inl (upd sc9 k 3))), (m_so, .inl (cI, 64, .inl vso)), (m_bo, .inl (cI, 301, .inl vbo)), (m_ac, .inl (cI, 301, .inl vac)), (m_dn, .inl (cI, 301, .inl vdn))] H := hP
                      have hD : va_D A [(mo, .inr (6, [.int th, .ref m_p, .ref m_t, .int (nI mm), .int (nI nn), .ref m_op, .ref m_ot, .int (nI om), .int (nI on), .int (nI cnt), .ref m_e, .ref m_d, .ref m_s, .ref m_b, .ref m_n, .ref m_bb, .ref m_bg, .ref m_l, .int (nI k), .ref m_sc, .ref m_so, .int oo, .int xx, .ref m_bo, .ref m_ac, .ref m_dn, .int bp, .int bt])), (m_p, .inl (cI, 150, .inl pp)), (m_t, .inl (cI, 300, .inl tt)), (m_op, .inl (cI, 150, .inl op)), (m_ot, .inl (cI, 300, .inl ot)), (m_e, .inl (cI, 301, .inl fe)), (m_d, .inl (cI, 301, .inl fd)), (m_s, .inl (cI, 301, .inl fs)), (m_b, .inl (cI, 151, .inl vb)), (m_n, .inl (cI, 151, .inl vn)), (m_bb, .inl (cI, 151, .inl vbb)), (m_bg, .inl (cI, 151, .inl vbg)), (m_l, .inl (cI, 45451, .inl w1)), (m_sc, .inl (cI, 451, .inl (upd sc9 k 3))), (m_so, .inl (cI, 64, .inl vso)), (m_bo, .inl (cI, 301, .inl vbo)), (m_ac, .inl (cI, 301, .inl vac)), (m_dn, .inl (cI, 301, .inl vdn))] := hD
                      refine lv_iinc (v := nI (j + 1)) (lv' := [(5, .int (nI (j + 1))), (8, .int 1), (7, .int 1), (6, .int (nI (px_er op ot om (st + n) (om - i) (n - j)))), (0, .ref mo), (2, .int (nI n)), (3, .int (nI st)), (4, .int (nI i))]) hx hb dX6_write_433 hl (k := 7) rfl (nI_add j 1) (by decide) rfl (fun ls hl => ?_)
                      refine lv_aload_n hx hb dX6_write_436 rfl (lv_at hl 4 rfl) ?_
                      refine lv_dup hx hb dX6_write_437 rfl ?_
                      refine va_get (D := D) (ci := 6) (v := .int (nI k)) (C := RX6) (T := TX6) (N := 28) hx hb hts i_X6 hown hK hP 0 rfl rfl 18 (by decide) w_4 (fun _ h9 => h9) rfl dX6_write_438 ?_
                      refine lv_iconst (v := 1) hx hb dX6_write_441 (by decide) ?_
                      refine lv_iadd hx hb dX6_write_442 ?_
                      refine lv_cv (y := nI (k + 1)) (nI_1 k) ?_
                      refine va_put (D := D) (ci := 6) (v := .int (nI (k + 1))) (ty := .int) (C := RX6) (T := TX6) (N := 28) hx hb hts i_X6 tyX6 tyX6_ok nmX6 hown hK hP hD hS 0 rfl rfl 18 (by decide) w_4 (fun _ h9 => h9) rfl (by decide +kernel) rfl rfl (Nat.le_of_ble_eq_true rfl) dX6_write_443 (fun H locs hP hD hS => ?_)
                      have hP : va_P D vwCl [(mo, .inr (6, [.int th, .ref m_p, .ref m_t, .int (nI mm), .int (nI nn), .ref m_op, .ref m_ot, .int (nI om), .int (nI on), .int (nI cnt), .ref m_e, .ref m_d, .ref m_s, .ref m_b, .ref m_n, .ref m_bb, .ref m_bg, .ref m_l, .int (nI (k + 1)), .ref m_sc, .ref m_so, .int oo, .int xx, .ref m_bo, .ref m_ac, .ref m_dn, .int bp, .int bt])), (m_p, .inl (cI, 150, .inl pp)), (m_t, .inl (cI, 300, .inl tt)), (m_op, .inl (cI, 150, .inl op)), (m_ot, .inl (cI, 300, .inl ot)), (m_e, .inl (cI, 301, .inl fe)), (m_d, .inl (cI, 301, .inl fd)), (m_s, .inl (cI, 301, .inl fs)), (m_b, .inl (cI, 151, .inl vb)), (m_n, .inl (cI, 151, .inl vn)), (m_bb, .inl (cI, 151, .inl vbb)), (m_bg, .inl (cI, 151, .inl vbg)), (m_l, .inl (cI, 45451, .inl w1)), (m_sc, .inl (cI, 451, .inl (upd sc9 k 3))), (m_so, .inl (cI, 64, .inl vso)), (m_bo, .inl (cI, 301, .inl vbo)), (m_ac, .inl (cI, 301, .inl vac)), (m_dn, .inl (cI, 301, .inl vdn))] H := hP
                      have hD : va_D A [(mo, .inr (6, [.int th, .ref m_p, .ref m_t, .int (nI mm), .int (nI nn), .ref m_op, .ref m_ot, .int (nI om), .int (nI on), .int (nI cnt), .ref m_e, .ref m_d, .ref m_s, .ref m_b, .ref m_n, .ref m_bb, .ref m_bg, .ref m_l, .int (nI (k + 1)), .ref m_sc, .ref m_so, .int oo, .int xx, .ref m_bo, .ref m_ac, .ref m_dn, .int bp, .int bt])), (m_p, .inl (cI, 150, .inl pp)), (m_t, .inl (cI, 300, .inl tt)), (m_op, .inl (cI, 150, .inl op)), (m_ot, .inl (cI, 300, .inl ot)), (m_e, .inl (cI, 301, .inl fe)), (m_d, .inl (cI, 301, .inl fd)), (m_s, .inl (cI, 301, .inl fs)), (m_b, .inl (cI, 151, .inl vb)), (m_n, .inl (cI, 151, .inl vn)), (m_bb, .inl (cI, 151, .inl vbb)), (m_bg, .inl (cI, 151, .inl vbg)), (m_l, .inl (cI, 45451, .inl w1)), (m_sc, .inl (cI, 451, .inl (upd sc9 k 3))), (m_so, .inl (cI, 64, .inl vso)), (m_bo, .inl (cI, 301, .inl vbo)), (m_ac, .inl (cI, 301, .inl vac)), (m_dn, .inl (cI, 301, .inl vdn))] := hD
                      refine lv_goto (tgt := 238) hx hb dX6_write_446 (by decide) ?_
                      have hs9 : px_st op ot om (st + n) i (st + j) = 3 := by rw [px_st_r]; exact (by have ec : px_ch op ot i (st + j) = 1 := if_neg c_312; rw [if_neg (by omega), if_neg (by omega), ec, if_neg (by omega), if_neg (by omega)])
                      exact ih_238 (om + n - (i + (j + 1))) _ _ _ (by omega) ⟨k + 1, i, j + 1, upd sc9 k 3, px_tr_3 htr hs9, px_un_s htr hun (by omega), px_sc_s htr hsc hs9, rfl, hP, hD, hS, lv_sub hl [4, 5, 6, 7, 0] rfl⟩
                    · have k_404 : px_er op ot om (st + n) (om - i) (n - j) = 1 + (px_er op ot om (st + n) (om - (i + 1)) (n - j)) := (nI_eq (a := px_er op ot om (st + n) (om - i) (n - j)) (b := 1 + (px_er op ot om (st + n) (om - (i + 1)) (n - j))) (by omega) (by omega)).mp c_404
                      refine lv_aload_n hx hb dX6_write_407 rfl (lv_at hl 3 rfl) ?_
                      refine va_get (D := D) (ci := 6) (v := .ref m_sc) (C := RX6) (T := TX6) (N := 28) hx hb hts i_X6 hown hK hP 0 rfl rfl 19 (by decide) w_6 (fun _ h9 => h9) rfl dX6_write_408 ?_
                      refine lv_aload_n hx hb dX6_write_411 rfl (lv_at hl 3 rfl) ?_
                      refine va_get (D := D) (ci := 6) (v := .int (nI k)) (C := RX6) (T := TX6) (N := 28) hx hb hts i_X6 hown hK hP 0 rfl rfl 18 (by decide) w_4 (fun _ h9 => h9) rfl dX6_write_412 ?_
                      refine lv_iconst (v := 2) hx hb dX6_write_415 (by decide) ?_
                      refine va_iastN hx hb hK hP hD hS 13 0 rfl rfl (k := k) (x := 2) (by omega) (by decide) dX6_write_416 (fun H locs hP hD hS => ?_)
                      have hP : va_P D vwCl [(mo, .inr (6, [.int th, .ref m_p, .ref m_t, .int (nI mm), .int (nI nn), .ref m_op, .ref m_ot, .int (nI om), .int (nI on), .int (nI cnt), .ref m_e, .ref m_d, .ref m_s, .ref m_b, .ref m_n, .ref m_bb, .ref m_bg, .ref m_l, .int (nI k), .ref m_sc, .ref m_so, .int oo, .int xx, .ref m_bo, .ref m_ac, .ref m_dn, .int bp, .int bt])), (m_p, .inl (cI, 150, .inl pp)), (m_t, .inl (cI, 300, .inl tt)), (m_op, .inl (cI, 150, .inl op)), (m_ot, .inl (cI, 300, .inl ot)), (m_e, .inl (cI, 301, .inl fe)), (m_d, .inl (cI, 301, .inl fd)), (m_s, .inl (cI, 301, .inl fs)), (m_b, .inl (cI, 151, .inl vb)), (m_n, .inl (cI, 151, .inl vn)), (m_bb, .inl (cI, 151, .inl vbb)), (m_bg, .inl (cI, 151, .inl vbg)), (m_l, .inl (cI, 45451, .inl w1)), (m_sc, .inl (cI, 451, .inl (upd sc9 k 2))), (m_so, .inl (cI, 64, .inl vso)), (m_bo, .inl (cI, 301, .inl vbo)), (m_ac, .inl (cI, 301, .inl vac)), (m_dn, .inl (cI, 301, .inl vdn))] H := hP
                      have hD : va_D A [(mo, .inr (6, [.int th, .ref m_p, .ref m_t, .int (nI mm), .int (nI nn), .ref m_op, .ref m_ot, .int (nI om), .int (nI on), .int (nI cnt), .ref m_e, .ref m_d, .ref m_s, .ref m_b, .ref m_n, .ref m_bb, .ref m_bg, .ref m_l, .int (nI k), .ref m_sc, .ref m_so, .int oo, .int xx, .ref m_bo, .ref m_ac, .ref m_dn, .int bp, .int bt])), (m_p, .inl (cI, 150, .inl pp)), (m_t, .inl (cI, 300, .inl tt)), (m_op, .inl (cI, 150, .inl op)), (m_ot, .inl (cI, 300, .inl ot)), (m_e, .inl (cI, 301, .inl fe)), (m_d, .inl (cI, 301, .inl fd)), (m_s, .inl (cI, 301, .inl fs)), (m_b, .inl (cI, 151, .inl vb)), (m_n, .inl (cI, 151, .inl vn)), (m_bb, .inl (cI, 151, .inl vbb)), (m_bg, .inl (cI, 151, .inl vbg)), (m_l, .inl (cI, 45451, .inl w1)), (m_sc, .inl (cI, 451, .inl (upd sc9 k 2))), (m_so, .inl (cI, 64, .inl vso)), (m_bo, .inl (cI, 301, .inl vbo)), (m_ac, .inl (cI, 301, .inl vac)), (m_dn, .inl (cI, 301, .inl vdn))] := hD
                      refine lv_iinc (v := nI (i + 1)) (lv' := [(4, .int (nI (i + 1))), (8, .int 1), (7, .int 1), (6, .int (nI (px_er op ot om (st + n) (om - i) (n - j)))), (0, .ref mo), (2, .int (nI n)), (3, .int (nI st)), (5, .int (nI j))]) hx hb dX6_write_417 hl (k := 6) rfl (nI_add i 1) (by decide) rfl (fun ls hl => ?_)
                      refine lv_goto (tgt := 436) hx hb dX6_write_420 (by decide) ?_
                      refine lv_aload_n hx hb dX6_write_436 rfl (lv_at hl 4 rfl) ?_
                      refine lv_dup hx hb dX6_write_437 rfl ?_
                      refine va_get (D := D) (ci := 6) (v := .int (nI k)) (C := RX6) (T := TX6) (N := 28) hx hb hts i_X6 hown hK hP 0 rfl rfl 18 (by decide) w_4 (fun _ h9 => h9) rfl dX6_write_438 ?_
                      refine lv_iconst (v := 1) hx hb dX6_write_441 (by decide) ?_
                      refine lv_iadd hx hb dX6_write_442 ?_
                      refine lv_cv (y := nI (k + 1)) (nI_1 k) ?_
                      refine va_put (D := D) (ci := 6) (v := .int (nI (k + 1))) (ty := .int) (C := RX6) (T := TX6) (N := 28) hx hb hts i_X6 tyX6 tyX6_ok nmX6 hown hK hP hD hS 0 rfl rfl 18 (by decide) w_4 (fun _ h9 => h9) rfl (by decide +kernel) rfl rfl (Nat.le_of_ble_eq_true rfl) dX6_write_443 (fun H locs hP hD hS => ?_)
                      have hP : va_P D vwCl [(mo, .inr (6, [.int th, .ref m_p, .ref m_t, .int (nI mm), .int (nI nn), .ref m_op, .ref m_ot, .int (nI om), .int (nI on), .int (nI cnt), .ref m_e, .ref m_d, .ref m_s, .ref m_b, .ref m_n, .ref m_bb, .ref m_bg, .ref m_l, .int (nI (k + 1)), .ref m_sc, .ref m_so, .int oo, .int xx, .ref m_bo, .ref m_ac, .ref m_dn, .int bp, .int bt])), (m_p, .inl (cI, 150, .inl pp)), (m_t, .inl (cI, 300, .inl tt)), (m_op, .inl (cI, 150, .inl op)), (m_ot, .inl (cI, 300, .inl ot)), (m_e, .inl (cI, 301, .inl fe)), (m_d, .inl (cI, 301, .inl fd)), (m_s, .inl (cI, 301, .inl fs)), (m_b, .inl (cI, 151, .inl vb)), (m_n, .inl (cI, 151, .inl vn)), (m_bb, .inl (cI, 151, .inl vbb)), (m_bg, .inl (cI, 151, .inl vbg)), (m_l, .inl (cI, 45451, .inl w1)), (m_sc, .inl (cI, 451, .inl (upd sc9 k 2))), (m_so, .inl (cI, 64, .inl vso)), (m_bo, .inl (cI, 301, .inl vbo)), (m_ac, .inl (cI, 301, .inl vac)), (m_dn, .inl (cI, 301, .inl vdn))] H := hP
                      have hD : va_D A [(mo, .inr (6, [.int th, .ref m_p, .ref m_t, .int (nI mm), .int (nI nn), .ref m_op, .ref m_ot, .int (nI om), .int (nI on), .int (nI cnt), .ref m_e, .ref m_d, .ref m_s, .ref m_b, .ref m_n, .ref m_bb, .ref m_bg, .ref m_l, .int (nI (k + 1)), .ref m_sc, .ref m_so, .int oo, .int xx, .ref m_bo, .ref m_ac, .ref m_dn, .int bp, .int bt])), (m_p, .inl (cI, 150, .inl pp)), (m_t, .inl (cI, 300, .inl tt)), (m_op, .inl (cI, 150, .inl op)), (m_ot, .inl (cI, 300, .inl ot)), (m_e, .inl (cI, 301, .inl fe)), (m_d, .inl (cI, 301, .inl fd)), (m_s, .inl (cI, 301, .inl fs)), (m_b, .inl (cI, 151, .inl vb)), (m_n, .inl (cI, 151, .inl vn)), (m_bb, .inl (cI, 151, .inl vbb)), (m_bg, .inl (cI, 151, .inl vbg)), (m_l, .inl (cI, 45451, .inl w1)), (m_sc, .inl (cI, 451, .inl (upd sc9 k 2))), (m_so, .inl (cI, 64, .inl vso)), (m_bo, .inl (cI, 301, .inl vbo)), (m_ac, .inl (cI, 301, .inl vac)), (m_dn, .inl (cI, 301, .inl vdn))] := hD
                      refine lv_goto (tgt := 238) hx hb dX6_write_446 (by decide) ?_
                      have hs9 : px_st op ot om (st + n) i (st + j) = 2 := by rw [px_st_r]; exact (by have ec : px_ch op ot i (st + j) = 1 := if_neg c_312; rw [if_neg (by omega), if_neg (by omega), ec, if_neg (by omega), if_pos (by omega)])
                      exact ih_238 (om + n - (i + 1 + (j))) _ _ _ (by omega) ⟨k + 1, i + 1, j, upd sc9 k 2, px_tr_2 htr hs9, px_un_s htr hun (by omega), px_sc_s htr hsc hs9, rfl, hP, hD, hS, lv_sub hl [4, 5, 6, 0, 7] rfl⟩
                · have k_350 : px_er op ot om (st + n) (om - i) (n - j) = 1 + (px_er op ot om (st + n) (om - (i + 1)) (n - (j + 1))) := (nI_eq (a := px_er op ot om (st + n) (om - i) (n - j)) (b := 1 + (px_er op ot om (st + n) (om - (i + 1)) (n - (j + 1)))) (by omega) (by omega)).mp c_350
                  refine lv_aload_n hx hb dX6_write_353 rfl (lv_at hl 3 rfl) ?_
                  refine va_get (D := D) (ci := 6) (v := .ref m_sc) (C := RX6) (T := TX6) (N := 28) hx hb hts i_X6 hown hK hP 0 rfl rfl 19 (by decide) w_6 (fun _ h9 => h9) rfl dX6_write_354 ?_
                  refine lv_aload_n hx hb dX6_write_357 rfl (lv_at hl 3 rfl) ?_
                  refine va_get (D := D) (ci := 6) (v := .int (nI k)) (C := RX6) (T := TX6) (N := 28) hx hb hts i_X6 hown hK hP 0 rfl rfl 18 (by decide) w_4 (fun _ h9 => h9) rfl dX6_write_358 ?_
                  refine lv_iload hx hb dX6_write_361 (lv_at hl 0 rfl) ?_
                  refine va_iastN hx hb hK hP hD hS 13 0 rfl rfl (k := k) (x := 1) (by omega) (by decide) dX6_write_363 (fun H locs hP hD hS => ?_)
                  have hP : va_P D vwCl [(mo, .inr (6, [.int th, .ref m_p, .ref m_t, .int (nI mm), .int (nI nn), .ref m_op, .ref m_ot, .int (nI om), .int (nI on), .int (nI cnt), .ref m_e, .ref m_d, .ref m_s, .ref m_b, .ref m_n, .ref m_bb, .ref m_bg, .ref m_l, .int (nI k), .ref m_sc, .ref m_so, .int oo, .int xx, .ref m_bo, .ref m_ac, .ref m_dn, .int bp, .int bt])), (m_p, .inl (cI, 150, .inl pp)), (m_t, .inl (cI, 300, .inl tt)), (m_op, .inl (cI, 150, .inl op)), (m_ot, .inl (cI, 300, .inl ot)), (m_e, .inl (cI, 301, .inl fe)), (m_d, .inl (cI, 301, .inl fd)), (m_s, .inl (cI, 301, .inl fs)), (m_b, .inl (cI, 151, .inl vb)), (m_n, .inl (cI, 151, .inl vn)), (m_bb, .inl (cI, 151, .inl vbb)), (m_bg, .inl (cI, 151, .inl vbg)), (m_l, .inl (cI, 45451, .inl w1)), (m_sc, .inl (cI, 451, .inl (upd sc9 k 1))), (m_so, .inl (cI, 64, .inl vso)), (m_bo, .inl (cI, 301, .inl vbo)), (m_ac, .inl (cI, 301, .inl vac)), (m_dn, .inl (cI, 301, .inl vdn))] H := hP
                  have hD : va_D A [(mo, .inr (6, [.int th, .ref m_p, .ref m_t, .int (nI mm), .int (nI nn), .ref m_op, .ref m_ot, .int (nI om), .int (nI on), .int (nI cnt), .ref m_e, .ref m_d, .ref m_s, .ref m_b, .ref m_n, .ref m_bb, .ref m_bg, .ref m_l, .int (nI k), .ref m_sc, .ref m_so, .int oo, .int xx, .ref m_bo, .ref m_ac, .ref m_dn, .int bp, .int bt])), (m_p, .inl (cI, 150, .inl pp)), (m_t, .inl (cI, 300, .inl tt)), (m_op, .inl (cI, 150, .inl op)), (m_ot, .inl (cI, 300, .inl ot)), (m_e, .inl (cI, 301, .inl fe)), (m_d, .inl (cI, 301, .inl fd)), (m_s, .inl (cI, 301, .inl fs)), (m_b, .inl (cI, 151, .inl vb)), (m_n, .inl (cI, 151, .inl vn)), (m_bb, .inl (cI, 151, .inl vbb)), (m_bg, .inl (cI, 151, .inl vbg)), (m_l, .inl (cI, 45451, .inl w1)), (m_sc, .inl (cI, 451, .inl (upd sc9 k 1))), (m_so, .inl (cI, 64, .inl vso)), (m_bo, .inl (cI, 301, .inl vbo)), (m_ac, .inl (cI, 301, .inl vac)), (m_dn, .inl (cI, 301, .inl vdn))] := hD
                  refine lv_iinc (v := nI (i + 1)) (lv' := [(4, .int (nI (i + 1))), (8, .int 1), (7, .int 1), (6, .int (nI (px_er op ot om (st + n) (om - i) (n - j)))), (0, .ref mo), (2, .int (nI n)), (3, .int (nI st)), (5, .int (nI j))]) hx hb dX6_write_364 hl (k := 6) rfl (nI_add i 1) (by decide) rfl (fun ls hl => ?_)
                  refine lv_iinc (v := nI (j + 1)) (lv' := [(5, .int (nI (j + 1))), (4, .int (nI (i + 1))), (8, .int 1), (7, .int 1), (6, .int (nI (px_er op ot om (st + n) (om - i) (n - j)))), (0, .ref mo), (2, .int (nI n)), (3, .int (nI st))]) hx hb dX6_write_367 hl (k := 7) rfl (nI_add j 1) (by decide) rfl (fun ls hl => ?_)
                  refine lv_goto (tgt := 436) hx hb dX6_write_370 (by decide) ?_
                  refine lv_aload_n hx hb dX6_write_436 rfl (lv_at hl 5 rfl) ?_
                  refine lv_dup hx hb dX6_write_437 rfl ?_
                  refine va_get (D := D) (ci := 6) (v := .int (nI k)) (C := RX6) (T := TX6) (N := 28) hx hb hts i_X6 hown hK hP 0 rfl rfl 18 (by decide) w_4 (fun _ h9 => h9) rfl dX6_write_438 ?_
                  refine lv_iconst (v := 1) hx hb dX6_write_441 (by decide) ?_
                  refine lv_iadd hx hb dX6_write_442 ?_
                  refine lv_cv (y := nI (k + 1)) (nI_1 k) ?_
                  refine va_put (D := D) (ci := 6) (v := .int (nI (k + 1))) (ty := .int) (C := RX6) (T := TX6) (N := 28) hx hb hts i_X6 tyX6 tyX6_ok nmX6 hown hK hP hD hS 0 rfl rfl 18 (by decide) w_4 (fun _ h9 => h9) rfl (by decide +kernel) rfl rfl (Nat.le_of_ble_eq_true rfl) dX6_write_443 (fun H locs hP hD hS => ?_)
                  have hP : va_P D vwCl [(mo, .inr (6, [.int th, .ref m_p, .ref m_t, .int (nI mm), .int (nI nn), .ref m_op, .ref m_ot, .int (nI om), .int (nI on), .int (nI cnt), .ref m_e, .ref m_d, .ref m_s, .ref m_b, .ref m_n, .ref m_bb, .ref m_bg, .ref m_l, .int (nI (k + 1)), .ref m_sc, .ref m_so, .int oo, .int xx, .ref m_bo, .ref m_ac, .ref m_dn, .int bp, .int bt])), (m_p, .inl (cI, 150, .inl pp)), (m_t, .inl (cI, 300, .inl tt)), (m_op, .inl (cI, 150, .inl op)), (m_ot, .inl (cI, 300, .inl ot)), (m_e, .inl (cI, 301, .inl fe)), (m_d, .inl (cI, 301, .inl fd)), (m_s, .inl (cI, 301, .inl fs)), (m_b, .inl (cI, 151, .inl vb)), (m_n, .inl (cI, 151, .inl vn)), (m_bb, .inl (cI, 151, .inl vbb)), (m_bg, .inl (cI, 151, .inl vbg)), (m_l, .inl (cI, 45451, .inl w1)), (m_sc, .inl (cI, 451, .inl (upd sc9 k 1))), (m_so, .inl (cI, 64, .inl vso)), (m_bo, .inl (cI, 301, .inl vbo)), (m_ac, .inl (cI, 301, .inl vac)), (m_dn, .inl (cI, 301, .inl vdn))] H := hP
                  have hD : va_D A [(mo, .inr (6, [.int th, .ref m_p, .ref m_t, .int (nI mm), .int (nI nn), .ref m_op, .ref m_ot, .int (nI om), .int (nI on), .int (nI cnt), .ref m_e, .ref m_d, .ref m_s, .ref m_b, .ref m_n, .ref m_bb, .ref m_bg, .ref m_l, .int (nI (k + 1)), .ref m_sc, .ref m_so, .int oo, .int xx, .ref m_bo, .ref m_ac, .ref m_dn, .int bp, .int bt])), (m_p, .inl (cI, 150, .inl pp)), (m_t, .inl (cI, 300, .inl tt)), (m_op, .inl (cI, 150, .inl op)), (m_ot, .inl (cI, 300, .inl ot)), (m_e, .inl (cI, 301, .inl fe)), (m_d, .inl (cI, 301, .inl fd)), (m_s, .inl (cI, 301, .inl fs)), (m_b, .inl (cI, 151, .inl vb)), (m_n, .inl (cI, 151, .inl vn)), (m_bb, .inl (cI, 151, .inl vbb)), (m_bg, .inl (cI, 151, .inl vbg)), (m_l, .inl (cI, 45451, .inl w1)), (m_sc, .inl (cI, 451, .inl (upd sc9 k 1))), (m_so, .inl (cI, 64, .inl vso)), (m_bo, .inl (cI, 301, .inl vbo)), (m_ac, .inl (cI, 301, .inl vac)), (m_dn, .inl (cI, 301, .inl vdn))] := hD
                  refine lv_goto (tgt := 238) hx hb dX6_write_446 (by decide) ?_
                  have hs9 : px_st op ot om (st + n) i (st + j) = 1 := by rw [px_st_r]; exact (by have ec : px_ch op ot i (st + j) = 1 := if_neg c_312; rw [if_neg (by omega), if_neg (by omega), ec, if_pos (by omega)]; rfl)
                  exact ih_238 (om + n - (i + 1 + (j + 1))) _ _ _ (by omega) ⟨k + 1, i + 1, j + 1, upd sc9 k 1, px_tr_1 htr hs9, px_un_s htr hun (by omega), px_sc_s htr hsc hs9, rfl, hP, hD, hS, lv_sub hl [5, 6, 7, 1, 0] rfl⟩
    · have k_244 : ¬ (i < om) := fun q => c_244 ((nI_ltI (a := i) (b := om) (by omega) (by omega)).mpr q)
      refine lv_iload hx hb dX6_write_247 (lv_at hl 4 rfl) ?_
      refine lv_iload_n hx hb dX6_write_249 rfl (lv_at hl 1 rfl) ?_
      refine lv_icmp_ge (tgt := 449) hx hb dX6_write_250 (by decide) (fun c_250 => ?_) (fun c_250 => ?_)
      · have k_250 : n ≤ j := (nI_leI (a := n) (b := j) (by omega) (by omega)).mp c_250
        exact fin_v (k, sc9, w1) hx hb hr hlocks dX6_write_449 hK hS hP hD ⟨⟨by rw [htr]; exact ⟨(show om ≤ i by omega), (show st + n ≤ st + j by omega)⟩, hun, hsc⟩, by show k ≤ 450; omega⟩
      · have k_250 : ¬ (n ≤ j) := fun q => c_250 ((nI_leI (a := n) (b := j) (by omega) (by omega)).mpr q)
        refine lv_aload_n hx hb dX6_write_253 rfl (lv_at hl 0 rfl) ?_
        refine va_get (D := D) (ci := 6) (v := .ref m_l) (C := RX6) (T := TX6) (N := 28) hx hb hts i_X6 hown hK hP 0 rfl rfl 17 (by decide) w_5 (fun _ h9 => h9) rfl dX6_write_254 ?_
        refine lv_sipush (v := 301) hx hb dX6_write_257 (by decide) ?_
        refine lv_iload hx hb dX6_write_260 (lv_at hl 3 rfl) ?_
        refine lv_imul hx hb dX6_write_262 ?_
        refine lv_cv (y := nI (301 * i)) (pk_mul 301 i) ?_
        refine lv_iload hx hb dX6_write_263 (lv_at hl 4 rfl) ?_
        refine lv_iadd hx hb dX6_write_265 ?_
        refine lv_cv (y := nI (301 * i + j)) (nI_add (301 * i) j) ?_
        refine va_ialdN hx hb hK hP 12 0 rfl rfl (k := 301 * i + j) (by omega) (by decide) dX6_write_266 ?_
        refine lv_cv (y := nI (px_er op ot om (st + n) (om - i) (n - j))) (hd9 i (by omega) j (by omega)) ?_
        refine lv_istore (lv' := [(6, .int (nI (px_er op ot om (st + n) (om - i) (n - j)))), (0, .ref mo), (2, .int (nI n)), (3, .int (nI st)), (4, .int (nI i)), (5, .int (nI j))]) hx hb dX6_write_267 hl (by decide) rfl (fun ls hl => ?_)
        refine lv_iload hx hb dX6_write_269 (lv_at hl 4 rfl) ?_
        refine lv_aload_n hx hb dX6_write_271 rfl (lv_at hl 1 rfl) ?_
        refine va_get (D := D) (ci := 6) (v := .int (nI om)) (C := RX6) (T := TX6) (N := 28) hx hb hts i_X6 hown hK hP 0 rfl rfl 7 (by decide) w_3 (fun _ h9 => h9) rfl dX6_write_272 ?_
        refine lv_icmp_ge (tgt := 288) hx hb dX6_write_275 (by decide) (fun c_275 => ?_) (fun c_275 => ?_)
        · have k_275 : om ≤ i := (nI_leI (a := om) (b := i) (by omega) (by omega)).mp c_275
          refine lv_iconst (v := 0) hx hb dX6_write_288 (by decide) ?_
          refine lv_istore (lv' := [(7, .int 0), (6, .int (nI (px_er op ot om (st + n) (om - i) (n - j)))), (0, .ref mo), (2, .int (nI n)), (3, .int (nI st)), (4, .int (nI i)), (5, .int (nI j))]) hx hb dX6_write_289 hl (by decide) rfl (fun ls hl => ?_)
          refine lv_iload hx hb dX6_write_291 (lv_at hl 0 rfl) ?_
          refine lv_if_eq (tgt := 319) hx hb dX6_write_293 (by decide) (fun c_293 => ?_) (fun c_293 => ?_)
          · refine lv_iconst (v := 0) hx hb dX6_write_319 (by decide) ?_
            refine lv_istore (lv' := [(8, .int 0), (7, .int 0), (6, .int (nI (px_er op ot om (st + n) (om - i) (n - j)))), (0, .ref mo), (2, .int (nI n)), (3, .int (nI st)), (4, .int (nI i)), (5, .int (nI j))]) hx hb dX6_write_320 hl (by decide) rfl (fun ls hl => ?_)
            refine lv_iload hx hb dX6_write_322 (lv_at hl 1 rfl) ?_
            refine lv_if_eq (tgt := 373) hx hb dX6_write_324 (by decide) (fun c_324 => ?_) (fun c_324 => ?_)
            · refine lv_iload hx hb dX6_write_373 (lv_at hl 6 rfl) ?_
              refine lv_aload_n hx hb dX6_write_375 rfl (lv_at hl 3 rfl) ?_
              refine va_get (D := D) (ci := 6) (v := .int (nI om)) (C := RX6) (T := TX6) (N := 28) hx hb hts i_X6 hown hK hP 0 rfl rfl 7 (by decide) w_3 (fun _ h9 => h9) rfl dX6_write_376 ?_
              refine lv_icmp_ge (tgt := 423) hx hb dX6_write_379 (by decide) (fun c_379 => ?_) (fun c_379 => ?_)
              · have k_379 : om ≤ i := (nI_leI (a := om) (b := i) (by omega) (by omega)).mp c_379
                refine lv_aload_n hx hb dX6_write_423 rfl (lv_at hl 3 rfl) ?_
                refine va_get (D := D) (ci := 6) (v := .ref m_sc) (C := RX6) (T := TX6) (N := 28) hx hb hts i_X6 hown hK hP 0 rfl rfl 19 (by decide) w_6 (fun _ h9 => h9) rfl dX6_write_424 ?_
                refine lv_aload_n hx hb dX6_write_427 rfl (lv_at hl 3 rfl) ?_
                refine va_get (D := D) (ci := 6) (v := .int (nI k)) (C := RX6) (T := TX6) (N := 28) hx hb hts i_X6 hown hK hP 0 rfl rfl 18 (by decide) w_4 (fun _ h9 => h9) rfl dX6_write_428 ?_
                refine lv_iconst (v := 3) hx hb dX6_write_431 (by decide) ?_
                refine va_iastN hx hb hK hP hD hS 13 0 rfl rfl (k := k) (x := 3) (by omega) (by decide) dX6_write_432 (fun H locs hP hD hS => ?_)
                have hP : va_P D vwCl [(mo, .inr (6, [.int th, .ref m_p, .ref m_t, .int (nI mm), .int (nI nn), .ref m_op, .ref m_ot, .int (nI om), .int (nI on), .int (nI cnt), .ref m_e, .ref m_d, .ref m_s, .ref m_b, .ref m_n, .ref m_bb, .ref m_bg, .ref m_l, .int (nI k), .ref m_sc, .ref m_so, .int oo, .int xx, .ref m_bo, .ref m_ac, .ref m_dn, .int bp, .int bt])), (m_p, .inl (cI, 150, .inl pp)), (m_t, .inl (cI, 300, .inl tt)), (m_op, .inl (cI, 150, .inl op)), (m_ot, .inl (cI, 300, .inl ot)), (m_e, .inl (cI, 301, .inl fe)), (m_d, .inl (cI, 301, .inl fd)), (m_s, .inl (cI, 301, .inl fs)), (m_b, .inl (cI, 151, .inl vb)), (m_n, .inl (cI, 151, .inl vn)), (m_bb, .inl (cI, 151, .inl vbb)), (m_bg, .inl (cI, 151, .inl vbg)), (m_l, .inl (cI, 45451, .inl w1)), (m_sc, .inl (cI, 451, .inl (upd sc9 k 3))), (m_so, .inl (cI, 64, .inl vso)), (m_bo, .inl (cI, 301, .inl vbo)), (m_ac, .inl (cI, 301, .inl vac)), (m_dn, .inl (cI, 301, .inl vdn))] H := hP
                have hD : va_D A [(mo, .inr (6, [.int th, .ref m_p, .ref m_t, .int (nI mm), .int (nI nn), .ref m_op, .ref m_ot, .int (nI om), .int (nI on), .int (nI cnt), .ref m_e, .ref m_d, .ref m_s, .ref m_b, .ref m_n, .ref m_bb, .ref m_bg, .ref m_l, .int (nI k), .ref m_sc, .ref m_so, .int oo, .int xx, .ref m_bo, .ref m_ac, .ref m_dn, .int bp, .int bt])), (m_p, .inl (cI, 150, .inl pp)), (m_t, .inl (cI, 300, .inl tt)), (m_op, .inl (cI, 150, .inl op)), (m_ot, .inl (cI, 300, .inl ot)), (m_e, .inl (cI, 301, .inl fe)), (m_d, .inl (cI, 301, .inl fd)), (m_s, .inl (cI, 301, .inl fs)), (m_b, .inl (cI, 151, .inl vb)), (m_n, .inl (cI, 151, .inl vn)), (m_bb, .inl (cI, 151, .inl vbb)), (m_bg, .inl (cI, 151, .inl vbg)), (m_l, .inl (cI, 45451, .inl w1)), (m_sc, .inl (cI, 451, .inl (upd sc9 k 3))), (m_so, .inl (cI, 64, .inl vso)), (m_bo, .inl (cI, 301, .inl vbo)), (m_ac, .inl (cI, 301, .inl vac)), (m_dn, .inl (cI, 301, .inl vdn))] := hD
                refine lv_iinc (v := nI (j + 1)) (lv' := [(5, .int (nI (j + 1))), (8, .int 0), (7, .int 0), (6, .int (nI (px_er op ot om (st + n) (om - i) (n - j)))), (0, .ref mo), (2, .int (nI n)), (3, .int (nI st)), (4, .int (nI i))]) hx hb dX6_write_433 hl (k := 7) rfl (nI_add j 1) (by decide) rfl (fun ls hl => ?_)
                refine lv_aload_n hx hb dX6_write_436 rfl (lv_at hl 4 rfl) ?_
                refine lv_dup hx hb dX6_write_437 rfl ?_
                refine va_get (D := D) (ci := 6) (v := .int (nI k)) (C := RX6) (T := TX6) (N := 28) hx hb hts i_X6 hown hK hP 0 rfl rfl 18 (by decide) w_4 (fun _ h9 => h9) rfl dX6_write_438 ?_
                refine lv_iconst (v := 1) hx hb dX6_write_441 (by decide) ?_
                refine lv_iadd hx hb dX6_write_442 ?_
                refine lv_cv (y := nI (k + 1)) (nI_1 k) ?_
                refine va_put (D := D) (ci := 6) (v := .int (nI (k + 1))) (ty := .int) (C := RX6) (T := TX6) (N := 28) hx hb hts i_X6 tyX6 tyX6_ok nmX6 hown hK hP hD hS 0 rfl rfl 18 (by decide) w_4 (fun _ h9 => h9) rfl (by decide +kernel) rfl rfl (Nat.le_of_ble_eq_true rfl) dX6_write_443 (fun H locs hP hD hS => ?_)
                have hP : va_P D vwCl [(mo, .inr (6, [.int th, .ref m_p, .ref m_t, .int (nI mm), .int (nI nn), .ref m_op, .ref m_ot, .int (nI om), .int (nI on), .int (nI cnt), .ref m_e, .ref m_d, .ref m_s, .ref m_b, .ref m_n, .ref m_bb, .ref m_bg, .ref m_l, .int (nI (k + 1)), .ref m_sc, .ref m_so, .int oo, .int xx, .ref m_bo, .ref m_ac, .ref m_dn, .int bp, .int bt])), (m_p, .inl (cI, 150, .inl pp)), (m_t, .inl (cI, 300, .inl tt)), (m_op, .inl (cI, 150, .inl op)), (m_ot, .inl (cI, 300, .inl ot)), (m_e, .inl (cI, 301, .inl fe)), (m_d, .inl (cI, 301, .inl fd)), (m_s, .inl (cI, 301, .inl fs)), (m_b, .inl (cI, 151, .inl vb)), (m_n, .inl (cI, 151, .inl vn)), (m_bb, .inl (cI, 151, .inl vbb)), (m_bg, .inl (cI, 151, .inl vbg)), (m_l, .inl (cI, 45451, .inl w1)), (m_sc, .inl (cI, 451, .inl (upd sc9 k 3))), (m_so, .inl (cI, 64, .inl vso)), (m_bo, .inl (cI, 301, .inl vbo)), (m_ac, .inl (cI, 301, .inl vac)), (m_dn, .inl (cI, 301, .inl vdn))] H := hP
                have hD : va_D A [(mo, .inr (6, [.int th, .ref m_p, .ref m_t, .int (nI mm), .int (nI nn), .ref m_op, .ref m_ot, .int (nI om), .int (nI on), .int (nI cnt), .ref m_e, .ref m_d, .ref m_s, .ref m_b, .ref m_n, .ref m_bb, .ref m_bg, .ref m_l, .int (nI (k + 1)), .ref m_sc, .ref m_so, .int oo, .int xx, .ref m_bo, .ref m_ac, .ref m_dn, .int bp, .int bt])), (m_p, .inl (cI, 150, .inl pp)), (m_t, .inl (cI, 300, .inl tt)), (m_op, .inl (cI, 150, .inl op)), (m_ot, .inl (cI, 300, .inl ot)), (m_e, .inl (cI, 301, .inl fe)), (m_d, .inl (cI, 301, .inl fd)), (m_s, .inl (cI, 301, .inl fs)), (m_b, .inl (cI, 151, .inl vb)), (m_n, .inl (cI, 151, .inl vn)), (m_bb, .inl (cI, 151, .inl vbb)), (m_bg, .inl (cI, 151, .inl vbg)), (m_l, .inl (cI, 45451, .inl w1)), (m_sc, .inl (cI, 451, .inl (upd sc9 k 3))), (m_so, .inl (cI, 64, .inl vso)), (m_bo, .inl (cI, 301, .inl vbo)), (m_ac, .inl (cI, 301, .inl vac)), (m_dn, .inl (cI, 301, .inl vdn))] := hD
                refine lv_goto (tgt := 238) hx hb dX6_write_446 (by decide) ?_
                have hs9 : px_st op ot om (st + n) i (st + j) = 3 := by rw [px_st_r]; exact (if_pos (by omega))
                exact ih_238 (om + n - (i + (j + 1))) _ _ _ (by omega) ⟨k + 1, i, j + 1, upd sc9 k 3, px_tr_3 htr hs9, px_un_s htr hun (by omega), px_sc_s htr hsc hs9, rfl, hP, hD, hS, lv_sub hl [4, 5, 6, 7, 0] rfl⟩
              · have k_379 : ¬ (om ≤ i) := fun q => c_379 ((nI_leI (a := om) (b := i) (by omega) (by omega)).mpr q)
                exact absurd (show om ≤ i by omega) k_379
            · exact absurd c_324 (by decide)
          · exact absurd c_293 (by decide)
        · have k_275 : ¬ (om ≤ i) := fun q => c_275 ((nI_leI (a := om) (b := i) (by omega) (by omega)).mpr q)
          refine lv_iload hx hb dX6_write_278 (lv_at hl 5 rfl) ?_
          refine lv_iload_n hx hb dX6_write_280 rfl (lv_at hl 2 rfl) ?_
          refine lv_icmp_ge (tgt := 288) hx hb dX6_write_281 (by decide) (fun c_281 => ?_) (fun c_281 => ?_)
          · have k_281 : n ≤ j := (nI_leI (a := n) (b := j) (by omega) (by omega)).mp c_281
            refine lv_iconst (v := 0) hx hb dX6_write_288 (by decide) ?_
            refine lv_istore (lv' := [(7, .int 0), (6, .int (nI (px_er op ot om (st + n) (om - i) (n - j)))), (0, .ref mo), (2, .int (nI n)), (3, .int (nI st)), (4, .int (nI i)), (5, .int (nI j))]) hx hb dX6_write_289 hl (by decide) rfl (fun ls hl => ?_)
            refine lv_iload hx hb dX6_write_291 (lv_at hl 0 rfl) ?_
            refine lv_if_eq (tgt := 319) hx hb dX6_write_293 (by decide) (fun c_293 => ?_) (fun c_293 => ?_)
            · refine lv_iconst (v := 0) hx hb dX6_write_319 (by decide) ?_
              refine lv_istore (lv' := [(8, .int 0), (7, .int 0), (6, .int (nI (px_er op ot om (st + n) (om - i) (n - j)))), (0, .ref mo), (2, .int (nI n)), (3, .int (nI st)), (4, .int (nI i)), (5, .int (nI j))]) hx hb dX6_write_320 hl (by decide) rfl (fun ls hl => ?_)
              refine lv_iload hx hb dX6_write_322 (lv_at hl 1 rfl) ?_
              refine lv_if_eq (tgt := 373) hx hb dX6_write_324 (by decide) (fun c_324 => ?_) (fun c_324 => ?_)
              · refine lv_iload hx hb dX6_write_373 (lv_at hl 6 rfl) ?_
                refine lv_aload_n hx hb dX6_write_375 rfl (lv_at hl 3 rfl) ?_
                refine va_get (D := D) (ci := 6) (v := .int (nI om)) (C := RX6) (T := TX6) (N := 28) hx hb hts i_X6 hown hK hP 0 rfl rfl 7 (by decide) w_3 (fun _ h9 => h9) rfl dX6_write_376 ?_
                refine lv_icmp_ge (tgt := 423) hx hb dX6_write_379 (by decide) (fun c_379 => ?_) (fun c_379 => ?_)
                · have k_379 : om ≤ i := (nI_leI (a := om) (b := i) (by omega) (by omega)).mp c_379
                  exact absurd k_379 (by omega)
                · have k_379 : ¬ (om ≤ i) := fun q => c_379 ((nI_leI (a := om) (b := i) (by omega) (by omega)).mpr q)
                  refine lv_iload hx hb dX6_write_382 (lv_at hl 2 rfl) ?_
                  refine lv_iconst (v := 1) hx hb dX6_write_384 (by decide) ?_
                  refine lv_aload_n hx hb dX6_write_385 rfl (lv_at hl 3 rfl) ?_
                  refine va_get (D := D) (ci := 6) (v := .ref m_l) (C := RX6) (T := TX6) (N := 28) hx hb hts i_X6 hown hK hP 0 rfl rfl 17 (by decide) w_5 (fun _ h9 => h9) rfl dX6_write_386 ?_
                  refine lv_sipush (v := 301) hx hb dX6_write_389 (by decide) ?_
                  refine lv_iload hx hb dX6_write_392 (lv_at hl 6 rfl) ?_
                  refine lv_imul hx hb dX6_write_394 ?_
                  refine lv_cv (y := nI (301 * i)) (pk_mul 301 i) ?_
                  refine lv_iload hx hb dX6_write_395 (lv_at hl 7 rfl) ?_
                  refine lv_iadd hx hb dX6_write_397 ?_
                  refine lv_cv (y := nI (301 * i + j)) (nI_add (301 * i) j) ?_
                  refine lv_sipush (v := 301) hx hb dX6_write_398 (by decide) ?_
                  refine lv_iadd hx hb dX6_write_401 ?_
                  refine lv_cv (y := nI (301 * i + j + 301)) (nI_add (301 * i + j) 301) ?_
                  refine va_ialdN hx hb hK hP 12 0 rfl rfl (k := 301 * i + j + 301) (by omega) (by decide) dX6_write_402 ?_
                  refine lv_cv (y := nI (px_er op ot om (st + n) (om - (i + 1)) (n - j))) ((by rw [show 301 * i + j + 301 = 301 * (i + 1) + j by omega]; exact hd9 (i + 1) (by omega) j (by omega))) ?_
                  refine lv_iadd hx hb dX6_write_403 ?_
                  refine lv_cv (y := nI (1 + (px_er op ot om (st + n) (om - (i + 1)) (n - j)))) (nI_add 1 (px_er op ot om (st + n) (om - (i + 1)) (n - j))) ?_
                  refine lv_icmp_ne (tgt := 423) hx hb dX6_write_404 (by decide) (fun c_404 => ?_) (fun c_404 => ?_)
                  · have k_404 : ¬ (px_er op ot om (st + n) (om - i) (n - j) = 1 + (px_er op ot om (st + n) (om - (i + 1)) (n - j))) := fun q => c_404 ((nI_eq (a := px_er op ot om (st + n) (om - i) (n - j)) (b := 1 + (px_er op ot om (st + n) (om - (i + 1)) (n - j))) (by omega) (by omega)).mpr q)
                    have ej : n - j = 0 := by omega
                    rw [ej, px_er_b0, px_er_b0] at k_404
                    exact absurd k_404 (by omega)
                  · have k_404 : px_er op ot om (st + n) (om - i) (n - j) = 1 + (px_er op ot om (st + n) (om - (i + 1)) (n - j)) := (nI_eq (a := px_er op ot om (st + n) (om - i) (n - j)) (b := 1 + (px_er op ot om (st + n) (om - (i + 1)) (n - j))) (by omega) (by omega)).mp c_404
                    refine lv_aload_n hx hb dX6_write_407 rfl (lv_at hl 3 rfl) ?_
                    refine va_get (D := D) (ci := 6) (v := .ref m_sc) (C := RX6) (T := TX6) (N := 28) hx hb hts i_X6 hown hK hP 0 rfl rfl 19 (by decide) w_6 (fun _ h9 => h9) rfl dX6_write_408 ?_
                    refine lv_aload_n hx hb dX6_write_411 rfl (lv_at hl 3 rfl) ?_
                    refine va_get (D := D) (ci := 6) (v := .int (nI k)) (C := RX6) (T := TX6) (N := 28) hx hb hts i_X6 hown hK hP 0 rfl rfl 18 (by decide) w_4 (fun _ h9 => h9) rfl dX6_write_412 ?_
                    refine lv_iconst (v := 2) hx hb dX6_write_415 (by decide) ?_
                    refine va_iastN hx hb hK hP hD hS 13 0 rfl rfl (k := k) (x := 2) (by omega) (by decide) dX6_write_416 (fun H locs hP hD hS => ?_)
                    have hP : va_P D vwCl [(mo, .inr (6, [.int th, .ref m_p, .ref m_t, .int (nI mm), .int (nI nn), .ref m_op, .ref m_ot, .int (nI om), .int (nI on), .int (nI cnt), .ref m_e, .ref m_d, .ref m_s, .ref m_b, .ref m_n, .ref m_bb, .ref m_bg, .ref m_l, .int (nI k), .ref m_sc, .ref m_so, .int oo, .int xx, .ref m_bo, .ref m_ac, .ref m_dn, .int bp, .int bt])), (m_p, .inl (cI, 150, .inl pp)), (m_t, .inl (cI, 300, .inl tt)), (m_op, .inl (cI, 150, .inl op)), (m_ot, .inl (cI, 300, .inl ot)), (m_e, .inl (cI, 301, .inl fe)), (m_d, .inl (cI, 301, .inl fd)), (m_s, .inl (cI, 301, .inl fs)), (m_b, .inl (cI, 151, .inl vb)), (m_n, .inl (cI, 151, .inl vn)), (m_bb, .inl (cI, 151, .inl vbb)), (m_bg, .inl (cI, 151, .inl vbg)), (m_l, .inl (cI, 45451, .inl w1)), (m_sc, .inl (cI, 451, .inl (upd sc9 k 2))), (m_so, .inl (cI, 64, .inl vso)), (m_bo, .inl (cI, 301, .inl vbo)), (m_ac, .inl (cI, 301, .inl vac)), (m_dn, .inl (cI, 301, .inl vdn))] H := hP
                    have hD : va_D A [(mo, .inr (6, [.int th, .ref m_p, .ref m_t, .int (nI mm), .int (nI nn), .ref m_op, .ref m_ot, .int (nI om), .int (nI on), .int (nI cnt), .ref m_e, .ref m_d, .ref m_s, .ref m_b, .ref m_n, .ref m_bb, .ref m_bg, .ref m_l, .int (nI k), .ref m_sc, .ref m_so, .int oo, .int xx, .ref m_bo, .ref m_ac, .ref m_dn, .int bp, .int bt])), (m_p, .inl (cI, 150, .inl pp)), (m_t, .inl (cI, 300, .inl tt)), (m_op, .inl (cI, 150, .inl op)), (m_ot, .inl (cI, 300, .inl ot)), (m_e, .inl (cI, 301, .inl fe)), (m_d, .inl (cI, 301, .inl fd)), (m_s, .inl (cI, 301, .inl fs)), (m_b, .inl (cI, 151, .inl vb)), (m_n, .inl (cI, 151, .inl vn)), (m_bb, .inl (cI, 151, .inl vbb)), (m_bg, .inl (cI, 151, .inl vbg)), (m_l, .inl (cI, 45451, .inl w1)), (m_sc, .inl (cI, 451, .inl (upd sc9 k 2))), (m_so, .inl (cI, 64, .inl vso)), (m_bo, .inl (cI, 301, .inl vbo)), (m_ac, .inl (cI, 301, .inl vac)), (m_dn, .inl (cI, 301, .inl vdn))] := hD
                    refine lv_iinc (v := nI (i + 1)) (lv' := [(4, .int (nI (i + 1))), (8, .int 0), (7, .int 0), (6, .int (nI (px_er op ot om (st + n) (om - i) (n - j)))), (0, .ref mo), (2, .int (nI n)), (3, .int (nI st)), (5, .int (nI j))]) hx hb dX6_write_417 hl (k := 6) rfl (nI_add i 1) (by decide) rfl (fun ls hl => ?_)
                    refine lv_goto (tgt := 436) hx hb dX6_write_420 (by decide) ?_
                    refine lv_aload_n hx hb dX6_write_436 rfl (lv_at hl 4 rfl) ?_
                    refine lv_dup hx hb dX6_write_437 rfl ?_
                    refine va_get (D := D) (ci := 6) (v := .int (nI k)) (C := RX6) (T := TX6) (N := 28) hx hb hts i_X6 hown hK hP 0 rfl rfl 18 (by decide) w_4 (fun _ h9 => h9) rfl dX6_write_438 ?_
                    refine lv_iconst (v := 1) hx hb dX6_write_441 (by decide) ?_
                    refine lv_iadd hx hb dX6_write_442 ?_
                    refine lv_cv (y := nI (k + 1)) (nI_1 k) ?_
                    refine va_put (D := D) (ci := 6) (v := .int (nI (k + 1))) (ty := .int) (C := RX6) (T := TX6) (N := 28) hx hb hts i_X6 tyX6 tyX6_ok nmX6 hown hK hP hD hS 0 rfl rfl 18 (by decide) w_4 (fun _ h9 => h9) rfl (by decide +kernel) rfl rfl (Nat.le_of_ble_eq_true rfl) dX6_write_443 (fun H locs hP hD hS => ?_)
                    have hP : va_P D vwCl [(mo, .inr (6, [.int th, .ref m_p, .ref m_t, .int (nI mm), .int (nI nn), .ref m_op, .ref m_ot, .int (nI om), .int (nI on), .int (nI cnt), .ref m_e, .ref m_d, .ref m_s, .ref m_b, .ref m_n, .ref m_bb, .ref m_bg, .ref m_l, .int (nI (k + 1)), .ref m_sc, .ref m_so, .int oo, .int xx, .ref m_bo, .ref m_ac, .ref m_dn, .int bp, .int bt])), (m_p, .inl (cI, 150, .inl pp)), (m_t, .inl (cI, 300, .inl tt)), (m_op, .inl (cI, 150, .inl op)), (m_ot, .inl (cI, 300, .inl ot)), (m_e, .inl (cI, 301, .inl fe)), (m_d, .inl (cI, 301, .inl fd)), (m_s, .inl (cI, 301, .inl fs)), (m_b, .inl (cI, 151, .inl vb)), (m_n, .inl (cI, 151, .inl vn)), (m_bb, .inl (cI, 151, .inl vbb)), (m_bg, .inl (cI, 151, .inl vbg)), (m_l, .inl (cI, 45451, .inl w1)), (m_sc, .inl (cI, 451, .inl (upd sc9 k 2))), (m_so, .inl (cI, 64, .inl vso)), (m_bo, .inl (cI, 301, .inl vbo)), (m_ac, .inl (cI, 301, .inl vac)), (m_dn, .inl (cI, 301, .inl vdn))] H := hP
                    have hD : va_D A [(mo, .inr (6, [.int th, .ref m_p, .ref m_t, .int (nI mm), .int (nI nn), .ref m_op, .ref m_ot, .int (nI om), .int (nI on), .int (nI cnt), .ref m_e, .ref m_d, .ref m_s, .ref m_b, .ref m_n, .ref m_bb, .ref m_bg, .ref m_l, .int (nI (k + 1)), .ref m_sc, .ref m_so, .int oo, .int xx, .ref m_bo, .ref m_ac, .ref m_dn, .int bp, .int bt])), (m_p, .inl (cI, 150, .inl pp)), (m_t, .inl (cI, 300, .inl tt)), (m_op, .inl (cI, 150, .inl op)), (m_ot, .inl (cI, 300, .inl ot)), (m_e, .inl (cI, 301, .inl fe)), (m_d, .inl (cI, 301, .inl fd)), (m_s, .inl (cI, 301, .inl fs)), (m_b, .inl (cI, 151, .inl vb)), (m_n, .inl (cI, 151, .inl vn)), (m_bb, .inl (cI, 151, .inl vbb)), (m_bg, .inl (cI, 151, .inl vbg)), (m_l, .inl (cI, 45451, .inl w1)), (m_sc, .inl (cI, 451, .inl (upd sc9 k 2))), (m_so, .inl (cI, 64, .inl vso)), (m_bo, .inl (cI, 301, .inl vbo)), (m_ac, .inl (cI, 301, .inl vac)), (m_dn, .inl (cI, 301, .inl vdn))] := hD
                    refine lv_goto (tgt := 238) hx hb dX6_write_446 (by decide) ?_
                    have hs9 : px_st op ot om (st + n) i (st + j) = 2 := by rw [px_st_r]; exact (by rw [if_neg (by omega), if_pos (by omega)])
                    exact ih_238 (om + n - (i + 1 + (j))) _ _ _ (by omega) ⟨k + 1, i + 1, j, upd sc9 k 2, px_tr_2 htr hs9, px_un_s htr hun (by omega), px_sc_s htr hsc hs9, rfl, hP, hD, hS, lv_sub hl [4, 5, 6, 0, 7] rfl⟩
              · exact absurd c_324 (by decide)
            · exact absurd c_293 (by decide)
          · have k_281 : ¬ (n ≤ j) := fun q => c_281 ((nI_leI (a := n) (b := j) (by omega) (by omega)).mpr q)
            refine lv_iconst (v := 1) hx hb dX6_write_284 (by decide) ?_
            refine lv_goto (tgt := 289) hx hb dX6_write_285 (by decide) ?_
            refine lv_istore (lv' := [(7, .int 1), (6, .int (nI (px_er op ot om (st + n) (om - i) (n - j)))), (0, .ref mo), (2, .int (nI n)), (3, .int (nI st)), (4, .int (nI i)), (5, .int (nI j))]) hx hb dX6_write_289 hl (by decide) rfl (fun ls hl => ?_)
            refine lv_iload hx hb dX6_write_291 (lv_at hl 0 rfl) ?_
            refine lv_if_eq (tgt := 319) hx hb dX6_write_293 (by decide) (fun c_293 => ?_) (fun c_293 => ?_)
            · exact absurd c_293 (by decide)
            · refine lv_aload_n hx hb dX6_write_296 rfl (lv_at hl 2 rfl) ?_
              refine va_get (D := D) (ci := 6) (v := .ref m_op) (C := RX6) (T := TX6) (N := 28) hx hb hts i_X6 hown hK hP 0 rfl rfl 5 (by decide) w_7 (fun _ h9 => h9) rfl dX6_write_297 ?_
              refine lv_iload hx hb dX6_write_300 (lv_at hl 5 rfl) ?_
              refine va_ialdN hx hb hK hP 3 0 rfl rfl (k := i) (by omega) (by decide) dX6_write_302 ?_
              refine lv_aload_n hx hb dX6_write_303 rfl (lv_at hl 2 rfl) ?_
              refine va_get (D := D) (ci := 6) (v := .ref m_ot) (C := RX6) (T := TX6) (N := 28) hx hb hts i_X6 hown hK hP 0 rfl rfl 6 (by decide) w_8 (fun _ h9 => h9) rfl dX6_write_304 ?_
              refine lv_iload_n hx hb dX6_write_307 rfl (lv_at hl 4 rfl) ?_
              refine lv_iload hx hb dX6_write_308 (lv_at hl 6 rfl) ?_
              refine lv_iadd hx hb dX6_write_310 ?_
              refine lv_cv (y := nI (st + j)) (nI_add st j) ?_
              refine va_ialdN hx hb hK hP 4 0 rfl rfl (k := st + j) (by omega) (by decide) dX6_write_311 ?_
              refine lv_icmp_eq (tgt := 319) hx hb dX6_write_312 (by decide) (fun c_312 => ?_) (fun c_312 => ?_)
              · refine lv_iconst (v := 0) hx hb dX6_write_319 (by decide) ?_
                refine lv_istore (lv' := [(8, .int 0), (7, .int 1), (6, .int (nI (px_er op ot om (st + n) (om - i) (n - j)))), (0, .ref mo), (2, .int (nI n)), (3, .int (nI st)), (4, .int (nI i)), (5, .int (nI j))]) hx hb dX6_write_320 hl (by decide) rfl (fun ls hl => ?_)
                refine lv_iload hx hb dX6_write_322 (lv_at hl 1 rfl) ?_
                refine lv_if_eq (tgt := 373) hx hb dX6_write_324 (by decide) (fun c_324 => ?_) (fun c_324 => ?_)
                · exact absurd c_324 (by decide)
                · refine lv_iload hx hb dX6_write_327 (lv_at hl 2 rfl) ?_
                  refine lv_iload hx hb dX6_write_329 (lv_at hl 0 rfl) ?_
                  refine lv_aload_n hx hb dX6_write_331 rfl (lv_at hl 3 rfl) ?_
                  refine va_get (D := D) (ci := 6) (v := .ref m_l) (C := RX6) (T := TX6) (N := 28) hx hb hts i_X6 hown hK hP 0 rfl rfl 17 (by decide) w_5 (fun _ h9 => h9) rfl dX6_write_332 ?_
                  refine lv_sipush (v := 301) hx hb dX6_write_335 (by decide) ?_
                  refine lv_iload hx hb dX6_write_338 (lv_at hl 6 rfl) ?_
                  refine lv_imul hx hb dX6_write_340 ?_
                  refine lv_cv (y := nI (301 * i)) (pk_mul 301 i) ?_
                  refine lv_iload hx hb dX6_write_341 (lv_at hl 7 rfl) ?_
                  refine lv_iadd hx hb dX6_write_343 ?_
                  refine lv_cv (y := nI (301 * i + j)) (nI_add (301 * i) j) ?_
                  refine lv_sipush (v := 302) hx hb dX6_write_344 (by decide) ?_
                  refine lv_iadd hx hb dX6_write_347 ?_
                  refine lv_cv (y := nI (301 * i + j + 302)) (nI_add (301 * i + j) 302) ?_
                  refine va_ialdN hx hb hK hP 12 0 rfl rfl (k := 301 * i + j + 302) (by omega) (by decide) dX6_write_348 ?_
                  refine lv_cv (y := nI (px_er op ot om (st + n) (om - (i + 1)) (n - (j + 1)))) ((by rw [show 301 * i + j + 302 = 301 * (i + 1) + (j + 1) by omega]; exact hd9 (i + 1) (by omega) (j + 1) (by omega))) ?_
                  refine lv_iadd hx hb dX6_write_349 ?_
                  refine lv_cv (y := nI (0 + (px_er op ot om (st + n) (om - (i + 1)) (n - (j + 1))))) (nI_add 0 (px_er op ot om (st + n) (om - (i + 1)) (n - (j + 1)))) ?_
                  refine lv_icmp_ne (tgt := 373) hx hb dX6_write_350 (by decide) (fun c_350 => ?_) (fun c_350 => ?_)
                  · have k_350 : ¬ (px_er op ot om (st + n) (om - i) (n - j) = 0 + (px_er op ot om (st + n) (om - (i + 1)) (n - (j + 1)))) := fun q => c_350 ((nI_eq (a := px_er op ot om (st + n) (om - i) (n - j)) (b := 0 + (px_er op ot om (st + n) (om - (i + 1)) (n - (j + 1)))) (by omega) (by omega)).mpr q)
                    refine lv_iload hx hb dX6_write_373 (lv_at hl 6 rfl) ?_
                    refine lv_aload_n hx hb dX6_write_375 rfl (lv_at hl 3 rfl) ?_
                    refine va_get (D := D) (ci := 6) (v := .int (nI om)) (C := RX6) (T := TX6) (N := 28) hx hb hts i_X6 hown hK hP 0 rfl rfl 7 (by decide) w_3 (fun _ h9 => h9) rfl dX6_write_376 ?_
                    refine lv_icmp_ge (tgt := 423) hx hb dX6_write_379 (by decide) (fun c_379 => ?_) (fun c_379 => ?_)
                    · have k_379 : om ≤ i := (nI_leI (a := om) (b := i) (by omega) (by omega)).mp c_379
                      exact absurd k_379 (by omega)
                    · have k_379 : ¬ (om ≤ i) := fun q => c_379 ((nI_leI (a := om) (b := i) (by omega) (by omega)).mpr q)
                      refine lv_iload hx hb dX6_write_382 (lv_at hl 2 rfl) ?_
                      refine lv_iconst (v := 1) hx hb dX6_write_384 (by decide) ?_
                      refine lv_aload_n hx hb dX6_write_385 rfl (lv_at hl 3 rfl) ?_
                      refine va_get (D := D) (ci := 6) (v := .ref m_l) (C := RX6) (T := TX6) (N := 28) hx hb hts i_X6 hown hK hP 0 rfl rfl 17 (by decide) w_5 (fun _ h9 => h9) rfl dX6_write_386 ?_
                      refine lv_sipush (v := 301) hx hb dX6_write_389 (by decide) ?_
                      refine lv_iload hx hb dX6_write_392 (lv_at hl 6 rfl) ?_
                      refine lv_imul hx hb dX6_write_394 ?_
                      refine lv_cv (y := nI (301 * i)) (pk_mul 301 i) ?_
                      refine lv_iload hx hb dX6_write_395 (lv_at hl 7 rfl) ?_
                      refine lv_iadd hx hb dX6_write_397 ?_
                      refine lv_cv (y := nI (301 * i + j)) (nI_add (301 * i) j) ?_
                      refine lv_sipush (v := 301) hx hb dX6_write_398 (by decide) ?_
                      refine lv_iadd hx hb dX6_write_401 ?_
                      refine lv_cv (y := nI (301 * i + j + 301)) (nI_add (301 * i + j) 301) ?_
                      refine va_ialdN hx hb hK hP 12 0 rfl rfl (k := 301 * i + j + 301) (by omega) (by decide) dX6_write_402 ?_
                      refine lv_cv (y := nI (px_er op ot om (st + n) (om - (i + 1)) (n - j))) ((by rw [show 301 * i + j + 301 = 301 * (i + 1) + j by omega]; exact hd9 (i + 1) (by omega) j (by omega))) ?_
                      refine lv_iadd hx hb dX6_write_403 ?_
                      refine lv_cv (y := nI (1 + (px_er op ot om (st + n) (om - (i + 1)) (n - j)))) (nI_add 1 (px_er op ot om (st + n) (om - (i + 1)) (n - j))) ?_
                      refine lv_icmp_ne (tgt := 423) hx hb dX6_write_404 (by decide) (fun c_404 => ?_) (fun c_404 => ?_)
                      · have k_404 : ¬ (px_er op ot om (st + n) (om - i) (n - j) = 1 + (px_er op ot om (st + n) (om - (i + 1)) (n - j))) := fun q => c_404 ((nI_eq (a := px_er op ot om (st + n) (om - i) (n - j)) (b := 1 + (px_er op ot om (st + n) (om - (i + 1)) (n - j))) (by omega) (by omega)).mpr q)
                        refine lv_aload_n hx hb dX6_write_423 rfl (lv_at hl 3 rfl) ?_
                        refine va_get (D := D) (ci := 6) (v := .ref m_sc) (C := RX6) (T := TX6) (N := 28) hx hb hts i_X6 hown hK hP 0 rfl rfl 19 (by decide) w_6 (fun _ h9 => h9) rfl dX6_write_424 ?_
                        refine lv_aload_n hx hb dX6_write_427 rfl (lv_at hl 3 rfl) ?_
                        refine va_get (D := D) (ci := 6) (v := .int (nI k)) (C := RX6) (T := TX6) (N := 28) hx hb hts i_X6 hown hK hP 0 rfl rfl 18 (by decide) w_4 (fun _ h9 => h9) rfl dX6_write_428 ?_
                        refine lv_iconst (v := 3) hx hb dX6_write_431 (by decide) ?_
                        refine va_iastN hx hb hK hP hD hS 13 0 rfl rfl (k := k) (x := 3) (by omega) (by decide) dX6_write_432 (fun H locs hP hD hS => ?_)
                        have hP : va_P D vwCl [(mo, .inr (6, [.int th, .ref m_p, .ref m_t, .int (nI mm), .int (nI nn), .ref m_op, .ref m_ot, .int (nI om), .int (nI on), .int (nI cnt), .ref m_e, .ref m_d, .ref m_s, .ref m_b, .ref m_n, .ref m_bb, .ref m_bg, .ref m_l, .int (nI k), .ref m_sc, .ref m_so, .int oo, .int xx, .ref m_bo, .ref m_ac, .ref m_dn, .int bp, .int bt])), (m_p, .inl (cI, 150, .inl pp)), (m_t, .inl (cI, 300, .inl tt)), (m_op, .inl (cI, 150, .inl op)), (m_ot, .inl (cI, 300, .inl ot)), (m_e, .inl (cI, 301, .inl fe)), (m_d, .inl (cI, 301, .inl fd)), (m_s, .inl (cI, 301, .inl fs)), (m_b, .inl (cI, 151, .inl vb)), (m_n, .inl (cI, 151, .inl vn)), (m_bb, .inl (cI, 151, .inl vbb)), (m_bg, .inl (cI, 151, .inl vbg)), (m_l, .inl (cI, 45451, .inl w1)), (m_sc, .inl (cI, 451, .inl (upd sc9 k 3))), (m_so, .inl (cI, 64, .inl vso)), (m_bo, .inl (cI, 301, .inl vbo)), (m_ac, .inl (cI, 301, .inl vac)), (m_dn, .inl (cI, 301, .inl vdn))] H := hP
                        have hD : va_D A [(mo, .inr (6, [.int th, .ref m_p, .ref m_t, .int (nI mm), .int (nI nn), .ref m_op, .ref m_ot, .int (nI om), .int (nI on), .int (nI cnt), .ref m_e, .ref m_d, .ref m_s, .ref m_b, .ref m_n, .ref m_bb, .ref m_bg, .ref m_l, .int (nI k), .ref m_sc, .ref m_so, .int oo, .int xx, .ref m_bo, .ref m_ac, .ref m_dn, .int bp, .int bt])), (m_p, .inl (cI, 150, .inl pp)), (m_t, .inl (cI, 300, .inl tt)), (m_op, .inl (cI, 150, .inl op)), (m_ot, .inl (cI, 300, .inl ot)), (m_e, .inl (cI, 301, .inl fe)), (m_d, .inl (cI, 301, .inl fd)), (m_s, .inl (cI, 301, .inl fs)), (m_b, .inl (cI, 151, .inl vb)), (m_n, .inl (cI, 151, .inl vn)), (m_bb, .inl (cI, 151, .inl vbb)), (m_bg, .inl (cI, 151, .inl vbg)), (m_l, .inl (cI, 45451, .inl w1)), (m_sc, .inl (cI, 451, .inl (upd sc9 k 3))), (m_so, .inl (cI, 64, .inl vso)), (m_bo, .inl (cI, 301, .inl vbo)), (m_ac, .inl (cI, 301, .inl vac)), (m_dn, .inl (cI, 301, .inl vdn))] := hD
                        refine lv_iinc (v := nI (j + 1)) (lv' := [(5, .int (nI (j + 1))), (8, .int 0), (7, .int 1), (6, .int (nI (px_er op ot om (st + n) (om - i) (n - j)))), (0, .ref mo), (2, .int (nI n)), (3, .int (nI st)), (4, .int (nI i))]) hx hb dX6_write_433 hl (k := 7) rfl (nI_add j 1) (by decide) rfl (fun ls hl => ?_)
                        refine lv_aload_n hx hb dX6_write_436 rfl (lv_at hl 4 rfl) ?_
                        refine lv_dup hx hb dX6_write_437 rfl ?_
                        refine va_get (D := D) (ci := 6) (v := .int (nI k)) (C := RX6) (T := TX6) (N := 28) hx hb hts i_X6 hown hK hP 0 rfl rfl 18 (by decide) w_4 (fun _ h9 => h9) rfl dX6_write_438 ?_
                        refine lv_iconst (v := 1) hx hb dX6_write_441 (by decide) ?_
                        refine lv_iadd hx hb dX6_write_442 ?_
                        refine lv_cv (y := nI (k + 1)) (nI_1 k) ?_
                        refine va_put (D := D) (ci := 6) (v := .int (nI (k + 1))) (ty := .int) (C := RX6) (T := TX6) (N := 28) hx hb hts i_X6 tyX6 tyX6_ok nmX6 hown hK hP hD hS 0 rfl rfl 18 (by decide) w_4 (fun _ h9 => h9) rfl (by decide +kernel) rfl rfl (Nat.le_of_ble_eq_true rfl) dX6_write_443 (fun H locs hP hD hS => ?_)
                        have hP : va_P D vwCl [(mo, .inr (6, [.int th, .ref m_p, .ref m_t, .int (nI mm), .int (nI nn), .ref m_op, .ref m_ot, .int (nI om), .int (nI on), .int (nI cnt), .ref m_e, .ref m_d, .ref m_s, .ref m_b, .ref m_n, .ref m_bb, .ref m_bg, .ref m_l, .int (nI (k + 1)), .ref m_sc, .ref m_so, .int oo, .int xx, .ref m_bo, .ref m_ac, .ref m_dn, .int bp, .int bt])), (m_p, .inl (cI, 150, .inl pp)), (m_t, .inl (cI, 300, .inl tt)), (m_op, .inl (cI, 150, .inl op)), (m_ot, .inl (cI, 300, .inl ot)), (m_e, .inl (cI, 301, .inl fe)), (m_d, .inl (cI, 301, .inl fd)), (m_s, .inl (cI, 301, .inl fs)), (m_b, .inl (cI, 151, .inl vb)), (m_n, .inl (cI, 151, .inl vn)), (m_bb, .inl (cI, 151, .inl vbb)), (m_bg, .inl (cI, 151, .inl vbg)), (m_l, .inl (cI, 45451, .inl w1)), (m_sc, .inl (cI, 451, .inl (upd sc9 k 3))), (m_so, .inl (cI, 64, .inl vso)), (m_bo, .inl (cI, 301, .inl vbo)), (m_ac, .inl (cI, 301, .inl vac)), (m_dn, .inl (cI, 301, .inl vdn))] H := hP
                        have hD : va_D A [(mo, .inr (6, [.int th, .ref m_p, .ref m_t, .int (nI mm), .int (nI nn), .ref m_op, .ref m_ot, .int (nI om), .int (nI on), .int (nI cnt), .ref m_e, .ref m_d, .ref m_s, .ref m_b, .ref m_n, .ref m_bb, .ref m_bg, .ref m_l, .int (nI (k + 1)), .ref m_sc, .ref m_so, .int oo, .int xx, .ref m_bo, .ref m_ac, .ref m_dn, .int bp, .int bt])), (m_p, .inl (cI, 150, .inl pp)), (m_t, .inl (cI, 300, .inl tt)), (m_op, .inl (cI, 150, .inl op)), (m_ot, .inl (cI, 300, .inl ot)), (m_e, .inl (cI, 301, .inl fe)), (m_d, .inl (cI, 301, .inl fd)), (m_s, .inl (cI, 301, .inl fs)), (m_b, .inl (cI, 151, .inl vb)), (m_n, .inl (cI, 151, .inl vn)), (m_bb, .inl (cI, 151, .inl vbb)), (m_bg, .inl (cI, 151, .inl vbg)), (m_l, .inl (cI, 45451, .inl w1)), (m_sc, .inl (cI, 451, .inl (upd sc9 k 3))), (m_so, .inl (cI, 64, .inl vso)), (m_bo, .inl (cI, 301, .inl vbo)), (m_ac, .inl (cI, 301, .inl vac)), (m_dn, .inl (cI, 301, .inl vdn))] := hD
                        refine lv_goto (tgt := 238) hx hb dX6_write_446 (by decide) ?_
                        have hs9 : px_st op ot om (st + n) i (st + j) = 3 := by rw [px_st_r]; exact (by have ec : px_ch op ot i (st + j) = 0 := if_pos c_312; rw [if_neg (by omega), if_neg (by omega), ec, if_neg (by omega), if_neg (by omega)])
                        exact ih_238 (om + n - (i + (j + 1))) _ _ _ (by omega) ⟨k + 1, i, j + 1, upd sc9 k 3, px_tr_3 htr hs9, px_un_s htr hun (by omega), px_sc_s htr hsc hs9, rfl, hP, hD, hS, lv_sub hl [4, 5, 6, 7, 0] rfl⟩
                      · have k_404 : px_er op ot om (st + n) (om - i) (n - j) = 1 + (px_er op ot om (st + n) (om - (i + 1)) (n - j)) := (nI_eq (a := px_er op ot om (st + n) (om - i) (n - j)) (b := 1 + (px_er op ot om (st + n) (om - (i + 1)) (n - j))) (by omega) (by omega)).mp c_404
                        refine lv_aload_n hx hb dX6_write_407 rfl (lv_at hl 3 rfl) ?_
                        refine va_get (D := D) (ci := 6) (v := .ref m_sc) (C := RX6) (T := TX6) (N := 28) hx hb hts i_X6 hown hK hP 0 rfl rfl 19 (by decide) w_6 (fun _ h9 => h9) rfl dX6_write_408 ?_
                        refine lv_aload_n hx hb dX6_write_411 rfl (lv_at hl 3 rfl) ?_
                        refine va_get (D := D) (ci := 6) (v := .int (nI k)) (C := RX6) (T := TX6) (N := 28) hx hb hts i_X6 hown hK hP 0 rfl rfl 18 (by decide) w_4 (fun _ h9 => h9) rfl dX6_write_412 ?_
                        refine lv_iconst (v := 2) hx hb dX6_write_415 (by decide) ?_
                        refine va_iastN hx hb hK hP hD hS 13 0 rfl rfl (k := k) (x := 2) (by omega) (by decide) dX6_write_416 (fun H locs hP hD hS => ?_)
                        have hP : va_P D vwCl [(mo, .inr (6, [.int th, .ref m_p, .ref m_t, .int (nI mm), .int (nI nn), .ref m_op, .ref m_ot, .int (nI om), .int (nI on), .int (nI cnt), .ref m_e, .ref m_d, .ref m_s, .ref m_b, .ref m_n, .ref m_bb, .ref m_bg, .ref m_l, .int (nI k), .ref m_sc, .ref m_so, .int oo, .int xx, .ref m_bo, .ref m_ac, .ref m_dn, .int bp, .int bt])), (m_p, .inl (cI, 150, .inl pp)), (m_t, .inl (cI, 300, .inl tt)), (m_op, .inl (cI, 150, .inl op)), (m_ot, .inl (cI, 300, .inl ot)), (m_e, .inl (cI, 301, .inl fe)), (m_d, .inl (cI, 301, .inl fd)), (m_s, .inl (cI, 301, .inl fs)), (m_b, .inl (cI, 151, .inl vb)), (m_n, .inl (cI, 151, .inl vn)), (m_bb, .inl (cI, 151, .inl vbb)), (m_bg, .inl (cI, 151, .inl vbg)), (m_l, .inl (cI, 45451, .inl w1)), (m_sc, .inl (cI, 451, .inl (upd sc9 k 2))), (m_so, .inl (cI, 64, .inl vso)), (m_bo, .inl (cI, 301, .inl vbo)), (m_ac, .inl (cI, 301, .inl vac)), (m_dn, .inl (cI, 301, .inl vdn))] H := hP
                        have hD : va_D A [(mo, .inr (6, [.int th, .ref m_p, .ref m_t, .int (nI mm), .int (nI nn), .ref m_op, .ref m_ot, .int (nI om), .int (nI on), .int (nI cnt), .ref m_e, .ref m_d, .ref m_s, .ref m_b, .ref m_n, .ref m_bb, .ref m_bg, .ref m_l, .int (nI k), .ref m_sc, .ref m_so, .int oo, .int xx, .ref m_bo, .ref m_ac, .ref m_dn, .int bp, .int bt])), (m_p, .inl (cI, 150, .inl pp)), (m_t, .inl (cI, 300, .inl tt)), (m_op, .inl (cI, 150, .inl op)), (m_ot, .inl (cI, 300, .inl ot)), (m_e, .inl (cI, 301, .inl fe)), (m_d, .inl (cI, 301, .inl fd)), (m_s, .inl (cI, 301, .inl fs)), (m_b, .inl (cI, 151, .inl vb)), (m_n, .inl (cI, 151, .inl vn)), (m_bb, .inl (cI, 151, .inl vbb)), (m_bg, .inl (cI, 151, .inl vbg)), (m_l, .inl (cI, 45451, .inl w1)), (m_sc, .inl (cI, 451, .inl (upd sc9 k 2))), (m_so, .inl (cI, 64, .inl vso)), (m_bo, .inl (cI, 301, .inl vbo)), (m_ac, .inl (cI, 301, .inl vac)), (m_dn, .inl (cI, 301, .inl vdn))] := hD
                        refine lv_iinc (v := nI (i + 1)) (lv' := [(4, .int (nI (i + 1))), (8, .int 0), (7, .int 1), (6, .int (nI (px_er op ot om (st + n) (om - i) (n - j)))), (0, .ref mo), (2, .int (nI n)), (3, .int (nI st)), (5, .int (nI j))]) hx hb dX6_write_417 hl (k := 6) rfl (nI_add i 1) (by decide) rfl (fun ls hl => ?_)
                        refine lv_goto (tgt := 436) hx hb dX6_write_420 (by decide) ?_
                        refine lv_aload_n hx hb dX6_write_436 rfl (lv_at hl 4 rfl) ?_
                        refine lv_dup hx hb dX6_write_437 rfl ?_
                        refine va_get (D := D) (ci := 6) (v := .int (nI k)) (C := RX6) (T := TX6) (N := 28) hx hb hts i_X6 hown hK hP 0 rfl rfl 18 (by decide) w_4 (fun _ h9 => h9) rfl dX6_write_438 ?_
                        refine lv_iconst (v := 1) hx hb dX6_write_441 (by decide) ?_
                        refine lv_iadd hx hb dX6_write_442 ?_
                        refine lv_cv (y := nI (k + 1)) (nI_1 k) ?_
                        refine va_put (D := D) (ci := 6) (v := .int (nI (k + 1))) (ty := .int) (C := RX6) (T := TX6) (N := 28) hx hb hts i_X6 tyX6 tyX6_ok nmX6 hown hK hP hD hS 0 rfl rfl 18 (by decide) w_4 (fun _ h9 => h9) rfl (by decide +kernel) rfl rfl (Nat.le_of_ble_eq_true rfl) dX6_write_443 (fun H locs hP hD hS => ?_)
                        have hP : va_P D vwCl [(mo, .inr (6, [.int th, .ref m_p, .ref m_t, .int (nI mm), .int (nI nn), .ref m_op, .ref m_ot, .int (nI om), .int (nI on), .int (nI cnt), .ref m_e, .ref m_d, .ref m_s, .ref m_b, .ref m_n, .ref m_bb, .ref m_bg, .ref m_l, .int (nI (k + 1)), .ref m_sc, .ref m_so, .int oo, .int xx, .ref m_bo, .ref m_ac, .ref m_dn, .int bp, .int bt])), (m_p, .inl (cI, 150, .inl pp)), (m_t, .inl (cI, 300, .inl tt)), (m_op, .inl (cI, 150, .inl op)), (m_ot, .inl (cI, 300, .inl ot)), (m_e, .inl (cI, 301, .inl fe)), (m_d, .inl (cI, 301, .inl fd)), (m_s, .inl (cI, 301, .inl fs)), (m_b, .inl (cI, 151, .inl vb)), (m_n, .inl (cI, 151, .inl vn)), (m_bb, .inl (cI, 151, .inl vbb)), (m_bg, .inl (cI, 151, .inl vbg)), (m_l, .inl (cI, 45451, .inl w1)), (m_sc, .inl (cI, 451, .inl (upd sc9 k 2))), (m_so, .inl (cI, 64, .inl vso)), (m_bo, .inl (cI, 301, .inl vbo)), (m_ac, .inl (cI, 301, .inl vac)), (m_dn, .inl (cI, 301, .inl vdn))] H := hP
                        have hD : va_D A [(mo, .inr (6, [.int th, .ref m_p, .ref m_t, .int (nI mm), .int (nI nn), .ref m_op, .ref m_ot, .int (nI om), .int (nI on), .int (nI cnt), .ref m_e, .ref m_d, .ref m_s, .ref m_b, .ref m_n, .ref m_bb, .ref m_bg, .ref m_l, .int (nI (k + 1)), .ref m_sc, .ref m_so, .int oo, .int xx, .ref m_bo, .ref m_ac, .ref m_dn, .int bp, .int bt])), (m_p, .inl (cI, 150, .inl pp)), (m_t, .inl (cI, 300, .inl tt)), (m_op, .inl (cI, 150, .inl op)), (m_ot, .inl (cI, 300, .inl ot)), (m_e, .inl (cI, 301, .inl fe)), (m_d, .inl (cI, 301, .inl fd)), (m_s, .inl (cI, 301, .inl fs)), (m_b, .inl (cI, 151, .inl vb)), (m_n, .inl (cI, 151, .inl vn)), (m_bb, .inl (cI, 151, .inl vbb)), (m_bg, .inl (cI, 151, .inl vbg)), (m_l, .inl (cI, 45451, .inl w1)), (m_sc, .inl (cI, 451, .inl (upd sc9 k 2))), (m_so, .inl (cI, 64, .inl vso)), (m_bo, .inl (cI, 301, .inl vbo)), (m_ac, .inl (cI, 301, .inl vac)), (m_dn, .inl (cI, 301, .inl vdn))] := hD
                        refine lv_goto (tgt := 238) hx hb dX6_write_446 (by decide) ?_
                        have hs9 : px_st op ot om (st + n) i (st + j) = 2 := by rw [px_st_r]; exact (by have ec : px_ch op ot i (st + j) = 0 := if_pos c_312; rw [if_neg (by omega), if_neg (by omega), ec, if_neg (by omega), if_pos (by omega)])
                        exact ih_238 (om + n - (i + 1 + (j))) _ _ _ (by omega) ⟨k + 1, i + 1, j, upd sc9 k 2, px_tr_2 htr hs9, px_un_s htr hun (by omega), px_sc_s htr hsc hs9, rfl, hP, hD, hS, lv_sub hl [4, 5, 6, 0, 7] rfl⟩
                  · have k_350 : px_er op ot om (st + n) (om - i) (n - j) = 0 + (px_er op ot om (st + n) (om - (i + 1)) (n - (j + 1))) := (nI_eq (a := px_er op ot om (st + n) (om - i) (n - j)) (b := 0 + (px_er op ot om (st + n) (om - (i + 1)) (n - (j + 1)))) (by omega) (by omega)).mp c_350
                    refine lv_aload_n hx hb dX6_write_353 rfl (lv_at hl 3 rfl) ?_
                    refine va_get (D := D) (ci := 6) (v := .ref m_sc) (C := RX6) (T := TX6) (N := 28) hx hb hts i_X6 hown hK hP 0 rfl rfl 19 (by decide) w_6 (fun _ h9 => h9) rfl dX6_write_354 ?_
                    refine lv_aload_n hx hb dX6_write_357 rfl (lv_at hl 3 rfl) ?_
                    refine va_get (D := D) (ci := 6) (v := .int (nI k)) (C := RX6) (T := TX6) (N := 28) hx hb hts i_X6 hown hK hP 0 rfl rfl 18 (by decide) w_4 (fun _ h9 => h9) rfl dX6_write_358 ?_
                    refine lv_iload hx hb dX6_write_361 (lv_at hl 0 rfl) ?_
                    refine va_iastN hx hb hK hP hD hS 13 0 rfl rfl (k := k) (x := 0) (by omega) (by decide) dX6_write_363 (fun H locs hP hD hS => ?_)
                    have hP : va_P D vwCl [(mo, .inr (6, [.int th, .ref m_p, .ref m_t, .int (nI mm), .int (nI nn), .ref m_op, .ref m_ot, .int (nI om), .int (nI on), .int (nI cnt), .ref m_e, .ref m_d, .ref m_s, .ref m_b, .ref m_n, .ref m_bb, .ref m_bg, .ref m_l, .int (nI k), .ref m_sc, .ref m_so, .int oo, .int xx, .ref m_bo, .ref m_ac, .ref m_dn, .int bp, .int bt])), (m_p, .inl (cI, 150, .inl pp)), (m_t, .inl (cI, 300, .inl tt)), (m_op, .inl (cI, 150, .inl op)), (m_ot, .inl (cI, 300, .inl ot)), (m_e, .inl (cI, 301, .inl fe)), (m_d, .inl (cI, 301, .inl fd)), (m_s, .inl (cI, 301, .inl fs)), (m_b, .inl (cI, 151, .inl vb)), (m_n, .inl (cI, 151, .inl vn)), (m_bb, .inl (cI, 151, .inl vbb)), (m_bg, .inl (cI, 151, .inl vbg)), (m_l, .inl (cI, 45451, .inl w1)), (m_sc, .inl (cI, 451, .inl (upd sc9 k 0))), (m_so, .inl (cI, 64, .inl vso)), (m_bo, .inl (cI, 301, .inl vbo)), (m_ac, .inl (cI, 301, .inl vac)), (m_dn, .inl (cI, 301, .inl vdn))] H := hP
                    have hD : va_D A [(mo, .inr (6, [.int th, .ref m_p, .ref m_t, .int (nI mm), .int (nI nn), .ref m_op, .ref m_ot, .int (nI om), .int (nI on), .int (nI cnt), .ref m_e, .ref m_d, .ref m_s, .ref m_b, .ref m_n, .ref m_bb, .ref m_bg, .ref m_l, .int (nI k), .ref m_sc, .ref m_so, .int oo, .int xx, .ref m_bo, .ref m_ac, .ref m_dn, .int bp, .int bt])), (m_p, .inl (cI, 150, .inl pp)), (m_t, .inl (cI, 300, .inl tt)), (m_op, .inl (cI, 150, .inl op)), (m_ot, .inl (cI, 300, .inl ot)), (m_e, .inl (cI, 301, .inl fe)), (m_d, .inl (cI, 301, .inl fd)), (m_s, .inl (cI, 301, .inl fs)), (m_b, .inl (cI, 151, .inl vb)), (m_n, .inl (cI, 151, .inl vn)), (m_bb, .inl (cI, 151, .inl vbb)), (m_bg, .inl (cI, 151, .inl vbg)), (m_l, .inl (cI, 45451, .inl w1)), (m_sc, .inl (cI, 451, .inl (upd sc9 k 0))), (m_so, .inl (cI, 64, .inl vso)), (m_bo, .inl (cI, 301, .inl vbo)), (m_ac, .inl (cI, 301, .inl vac)), (m_dn, .inl (cI, 301, .inl vdn))] := hD
                    refine lv_iinc (v := nI (i + 1)) (lv' := [(4, .int (nI (i + 1))), (8, .int 0), (7, .int 1), (6, .int (nI (px_er op ot om (st + n) (om - i) (n - j)))), (0, .ref mo), (2, .int (nI n)), (3, .int (nI st)), (5, .int (nI j))]) hx hb dX6_write_364 hl (k := 6) rfl (nI_add i 1) (by decide) rfl (fun ls hl => ?_)
                    refine lv_iinc (v := nI (j + 1)) (lv' := [(5, .int (nI (j + 1))), (4, .int (nI (i + 1))), (8, .int 0), (7, .int 1), (6, .int (nI (px_er op ot om (st + n) (om - i) (n - j)))), (0, .ref mo), (2, .int (nI n)), (3, .int (nI st))]) hx hb dX6_write_367 hl (k := 7) rfl (nI_add j 1) (by decide) rfl (fun ls hl => ?_)
                    refine lv_goto (tgt := 436) hx hb dX6_write_370 (by decide) ?_
                    refine lv_aload_n hx hb dX6_write_436 rfl (lv_at hl 5 rfl) ?_
                    refine lv_dup hx hb dX6_write_437 rfl ?_
                    refine va_get (D := D) (ci := 6) (v := .int (nI k)) (C := RX6) (T := TX6) (N := 28) hx hb hts i_X6 hown hK hP 0 rfl rfl 18 (by decide) w_4 (fun _ h9 => h9) rfl dX6_write_438 ?_
                    refine lv_iconst (v := 1) hx hb dX6_write_441 (by decide) ?_
                    refine lv_iadd hx hb dX6_write_442 ?_
                    refine lv_cv (y := nI (k + 1)) (nI_1 k) ?_
                    refine va_put (D := D) (ci := 6) (v := .int (nI (k + 1))) (ty := .int) (C := RX6) (T := TX6) (N := 28) hx hb hts i_X6 tyX6 tyX6_ok nmX6 hown hK hP hD hS 0 rfl rfl 18 (by decide) w_4 (fun _ h9 => h9) rfl (by decide +kernel) rfl rfl (Nat.le_of_ble_eq_true rfl) dX6_write_443 (fun H locs hP hD hS => ?_)
                    have hP : va_P D vwCl [(mo, .inr (6, [.int th, .ref m_p, .ref m_t, .int (nI mm), .int (nI nn), .ref m_op, .ref m_ot, .int (nI om), .int (nI on), .int (nI cnt), .ref m_e, .ref m_d, .ref m_s, .ref m_b, .ref m_n, .ref m_bb, .ref m_bg, .ref m_l, .int (nI (k + 1)), .ref m_sc, .ref m_so, .int oo, .int xx, .ref m_bo, .ref m_ac, .ref m_dn, .int bp, .int bt])), (m_p, .inl (cI, 150, .inl pp)), (m_t, .inl (cI, 300, .inl tt)), (m_op, .inl (cI, 150, .inl op)), (m_ot, .inl (cI, 300, .inl ot)), (m_e, .inl (cI, 301, .inl fe)), (m_d, .inl (cI, 301, .inl fd)), (m_s, .inl (cI, 301, .inl fs)), (m_b, .inl (cI, 151, .inl vb)), (m_n, .inl (cI, 151, .inl vn)), (m_bb, .inl (cI, 151, .inl vbb)), (m_bg, .inl (cI, 151, .inl vbg)), (m_l, .inl (cI, 45451, .inl w1)), (m_sc, .inl (cI, 451, .inl (upd sc9 k 0))), (m_so, .inl (cI, 64, .inl vso)), (m_bo, .inl (cI, 301, .inl vbo)), (m_ac, .inl (cI, 301, .inl vac)), (m_dn, .inl (cI, 301, .inl vdn))] H := hP
                    have hD : va_D A [(mo, .inr (6, [.int th, .ref m_p, .ref m_t, .int (nI mm), .int (nI nn), .ref m_op, .ref m_ot, .int (nI om), .int (nI on), .int (nI cnt), .ref m_e, .ref m_d, .ref m_s, .ref m_b, .ref m_n, .ref m_bb, .ref m_bg, .ref m_l, .int (nI (k + 1)), .ref m_sc, .ref m_so, .int oo, .int xx, .ref m_bo, .ref m_ac, .ref m_dn, .int bp, .int bt])), (m_p, .inl (cI, 150, .inl pp)), (m_t, .inl (cI, 300, .inl tt)), (m_op, .inl (cI, 150, .inl op)), (m_ot, .inl (cI, 300, .inl ot)), (m_e, .inl (cI, 301, .inl fe)), (m_d, .inl (cI, 301, .inl fd)), (m_s, .inl (cI, 301, .inl fs)), (m_b, .inl (cI, 151, .inl vb)), (m_n, .inl (cI, 151, .inl vn)), (m_bb, .inl (cI, 151, .inl vbb)), (m_bg, .inl (cI, 151, .inl vbg)), (m_l, .inl (cI, 45451, .inl w1)), (m_sc, .inl (cI, 451, .inl (upd sc9 k 0))), (m_so, .inl (cI, 64, .inl vso)), (m_bo, .inl (cI, 301, .inl vbo)), (m_ac, .inl (cI, 301, .inl vac)), (m_dn, .inl (cI, 301, .inl vdn))] := hD
                    refine lv_goto (tgt := 238) hx hb dX6_write_446 (by decide) ?_
                    have hs9 : px_st op ot om (st + n) i (st + j) = 0 := by rw [px_st_r]; exact (by have ec : px_ch op ot i (st + j) = 0 := if_pos c_312; rw [if_neg (by omega), if_neg (by omega), ec, if_pos (by omega)]; rfl)
                    exact ih_238 (om + n - (i + 1 + (j + 1))) _ _ _ (by omega) ⟨k + 1, i + 1, j + 1, upd sc9 k 0, px_tr_0 htr hs9, px_un_s htr hun (by omega), px_sc_s htr hsc hs9, rfl, hP, hD, hS, lv_sub hl [5, 6, 7, 1, 0] rfl⟩
              · refine lv_iconst (v := 1) hx hb dX6_write_315 (by decide) ?_
                refine lv_goto (tgt := 320) hx hb dX6_write_316 (by decide) ?_
                refine lv_istore (lv' := [(8, .int 1), (7, .int 1), (6, .int (nI (px_er op ot om (st + n) (om - i) (n - j)))), (0, .ref mo), (2, .int (nI n)), (3, .int (nI st)), (4, .int (nI i)), (5, .int (nI j))]) hx hb dX6_write_320 hl (by decide) rfl (fun ls hl => ?_)
                refine lv_iload hx hb dX6_write_322 (lv_at hl 1 rfl) ?_
                refine lv_if_eq (tgt := 373) hx hb dX6_write_324 (by decide) (fun c_324 => ?_) (fun c_324 => ?_)
                · exact absurd c_324 (by decide)
                · refine lv_iload hx hb dX6_write_327 (lv_at hl 2 rfl) ?_
                  refine lv_iload hx hb dX6_write_329 (lv_at hl 0 rfl) ?_
                  refine lv_aload_n hx hb dX6_write_331 rfl (lv_at hl 3 rfl) ?_
                  refine va_get (D := D) (ci := 6) (v := .ref m_l) (C := RX6) (T := TX6) (N := 28) hx hb hts i_X6 hown hK hP 0 rfl rfl 17 (by decide) w_5 (fun _ h9 => h9) rfl dX6_write_332 ?_
                  refine lv_sipush (v := 301) hx hb dX6_write_335 (by decide) ?_
                  refine lv_iload hx hb dX6_write_338 (lv_at hl 6 rfl) ?_
                  refine lv_imul hx hb dX6_write_340 ?_
                  refine lv_cv (y := nI (301 * i)) (pk_mul 301 i) ?_
                  refine lv_iload hx hb dX6_write_341 (lv_at hl 7 rfl) ?_
                  refine lv_iadd hx hb dX6_write_343 ?_
                  refine lv_cv (y := nI (301 * i + j)) (nI_add (301 * i) j) ?_
                  refine lv_sipush (v := 302) hx hb dX6_write_344 (by decide) ?_
                  refine lv_iadd hx hb dX6_write_347 ?_
                  refine lv_cv (y := nI (301 * i + j + 302)) (nI_add (301 * i + j) 302) ?_
                  refine va_ialdN hx hb hK hP 12 0 rfl rfl (k := 301 * i + j + 302) (by omega) (by decide) dX6_write_348 ?_
                  refine lv_cv (y := nI (px_er op ot om (st + n) (om - (i + 1)) (n - (j + 1)))) ((by rw [show 301 * i + j + 302 = 301 * (i + 1) + (j + 1) by omega]; exact hd9 (i + 1) (by omega) (j + 1) (by omega))) ?_
                  refine lv_iadd hx hb dX6_write_349 ?_
                  refine lv_cv (y := nI (1 + (px_er op ot om (st + n) (om - (i + 1)) (n - (j + 1))))) (nI_add 1 (px_er op ot om (st + n) (om - (i + 1)) (n - (j + 1)))) ?_
                  refine lv_icmp_ne (tgt := 373) hx hb dX6_write_350 (by decide) (fun c_350 => ?_) (fun c_350 => ?_)
                  · have k_350 : ¬ (px_er op ot om (st + n) (om - i) (n - j) = 1 + (px_er op ot om (st + n) (om - (i + 1)) (n - (j + 1)))) := fun q => c_350 ((nI_eq (a := px_er op ot om (st + n) (om - i) (n - j)) (b := 1 + (px_er op ot om (st + n) (om - (i + 1)) (n - (j + 1)))) (by omega) (by omega)).mpr q)
                    refine lv_iload hx hb dX6_write_373 (lv_at hl 6 rfl) ?_
                    refine lv_aload_n hx hb dX6_write_375 rfl (lv_at hl 3 rfl) ?_
                    refine va_get (D := D) (ci := 6) (v := .int (nI om)) (C := RX6) (T := TX6) (N := 28) hx hb hts i_X6 hown hK hP 0 rfl rfl 7 (by decide) w_3 (fun _ h9 => h9) rfl dX6_write_376 ?_
                    refine lv_icmp_ge (tgt := 423) hx hb dX6_write_379 (by decide) (fun c_379 => ?_) (fun c_379 => ?_)
                    · have k_379 : om ≤ i := (nI_leI (a := om) (b := i) (by omega) (by omega)).mp c_379
                      exact absurd k_379 (by omega)
                    · have k_379 : ¬ (om ≤ i) := fun q => c_379 ((nI_leI (a := om) (b := i) (by omega) (by omega)).mpr q)
                      refine lv_iload hx hb dX6_write_382 (lv_at hl 2 rfl) ?_
                      refine lv_iconst (v := 1) hx hb dX6_write_384 (by decide) ?_
                      refine lv_aload_n hx hb dX6_write_385 rfl (lv_at hl 3 rfl) ?_
                      refine va_get (D := D) (ci := 6) (v := .ref m_l) (C := RX6) (T := TX6) (N := 28) hx hb hts i_X6 hown hK hP 0 rfl rfl 17 (by decide) w_5 (fun _ h9 => h9) rfl dX6_write_386 ?_
                      refine lv_sipush (v := 301) hx hb dX6_write_389 (by decide) ?_
                      refine lv_iload hx hb dX6_write_392 (lv_at hl 6 rfl) ?_
                      refine lv_imul hx hb dX6_write_394 ?_
                      refine lv_cv (y := nI (301 * i)) (pk_mul 301 i) ?_
                      refine lv_iload hx hb dX6_write_395 (lv_at hl 7 rfl) ?_
                      refine lv_iadd hx hb dX6_write_397 ?_
                      refine lv_cv (y := nI (301 * i + j)) (nI_add (301 * i) j) ?_
                      refine lv_sipush (v := 301) hx hb dX6_write_398 (by decide) ?_
                      refine lv_iadd hx hb dX6_write_401 ?_
                      refine lv_cv (y := nI (301 * i + j + 301)) (nI_add (301 * i + j) 301) ?_
                      refine va_ialdN hx hb hK hP 12 0 rfl rfl (k := 301 * i + j + 301) (by omega) (by decide) dX6_write_402 ?_
                      refine lv_cv (y := nI (px_er op ot om (st + n) (om - (i + 1)) (n - j))) ((by rw [show 301 * i + j + 301 = 301 * (i + 1) + j by omega]; exact hd9 (i + 1) (by omega) j (by omega))) ?_
                      refine lv_iadd hx hb dX6_write_403 ?_
                      refine lv_cv (y := nI (1 + (px_er op ot om (st + n) (om - (i + 1)) (n - j)))) (nI_add 1 (px_er op ot om (st + n) (om - (i + 1)) (n - j))) ?_
                      refine lv_icmp_ne (tgt := 423) hx hb dX6_write_404 (by decide) (fun c_404 => ?_) (fun c_404 => ?_)
                      · have k_404 : ¬ (px_er op ot om (st + n) (om - i) (n - j) = 1 + (px_er op ot om (st + n) (om - (i + 1)) (n - j))) := fun q => c_404 ((nI_eq (a := px_er op ot om (st + n) (om - i) (n - j)) (b := 1 + (px_er op ot om (st + n) (om - (i + 1)) (n - j))) (by omega) (by omega)).mpr q)
                        refine lv_aload_n hx hb dX6_write_423 rfl (lv_at hl 3 rfl) ?_
                        refine va_get (D := D) (ci := 6) (v := .ref m_sc) (C := RX6) (T := TX6) (N := 28) hx hb hts i_X6 hown hK hP 0 rfl rfl 19 (by decide) w_6 (fun _ h9 => h9) rfl dX6_write_424 ?_
                        refine lv_aload_n hx hb dX6_write_427 rfl (lv_at hl 3 rfl) ?_
                        refine va_get (D := D) (ci := 6) (v := .int (nI k)) (C := RX6) (T := TX6) (N := 28) hx hb hts i_X6 hown hK hP 0 rfl rfl 18 (by decide) w_4 (fun _ h9 => h9) rfl dX6_write_428 ?_
                        refine lv_iconst (v := 3) hx hb dX6_write_431 (by decide) ?_
                        refine va_iastN hx hb hK hP hD hS 13 0 rfl rfl (k := k) (x := 3) (by omega) (by decide) dX6_write_432 (fun H locs hP hD hS => ?_)
                        have hP : va_P D vwCl [(mo, .inr (6, [.int th, .ref m_p, .ref m_t, .int (nI mm), .int (nI nn), .ref m_op, .ref m_ot, .int (nI om), .int (nI on), .int (nI cnt), .ref m_e, .ref m_d, .ref m_s, .ref m_b, .ref m_n, .ref m_bb, .ref m_bg, .ref m_l, .int (nI k), .ref m_sc, .ref m_so, .int oo, .int xx, .ref m_bo, .ref m_ac, .ref m_dn, .int bp, .int bt])), (m_p, .inl (cI, 150, .inl pp)), (m_t, .inl (cI, 300, .inl tt)), (m_op, .inl (cI, 150, .inl op)), (m_ot, .inl (cI, 300, .inl ot)), (m_e, .inl (cI, 301, .inl fe)), (m_d, .inl (cI, 301, .inl fd)), (m_s, .inl (cI, 301, .inl fs)), (m_b, .inl (cI, 151, .inl vb)), (m_n, .inl (cI, 151, .inl vn)), (m_bb, .inl (cI, 151, .inl vbb)), (m_bg, .inl (cI, 151, .inl vbg)), (m_l, .inl (cI, 45451, .inl w1)), (m_sc, .inl (cI, 451, .inl (upd sc9 k 3))), (m_so, .inl (cI, 64, .inl vso)), (m_bo, .inl (cI, 301, .inl vbo)), (m_ac, .inl (cI, 301, .inl vac)), (m_dn, .inl (cI, 301, .inl vdn))] H := hP
                        have hD : va_D A [(mo, .inr (6, [.int th, .ref m_p, .ref m_t, .int (nI mm), .int (nI nn), .ref m_op, .ref m_ot, .int (nI om), .int (nI on), .int (nI cnt), .ref m_e, .ref m_d, .ref m_s, .ref m_b, .ref m_n, .ref m_bb, .ref m_bg, .ref m_l, .int (nI k), .ref m_sc, .ref m_so, .int oo, .int xx, .ref m_bo, .ref m_ac, .ref m_dn, .int bp, .int bt])), (m_p, .inl (cI, 150, .inl pp)), (m_t, .inl (cI, 300, .inl tt)), (m_op, .inl (cI, 150, .inl op)), (m_ot, .inl (cI, 300, .inl ot)), (m_e, .inl (cI, 301, .inl fe)), (m_d, .inl (cI, 301, .inl fd)), (m_s, .inl (cI, 301, .inl fs)), (m_b, .inl (cI, 151, .inl vb)), (m_n, .inl (cI, 151, .inl vn)), (m_bb, .inl (cI, 151, .inl vbb)), (m_bg, .inl (cI, 151, .inl vbg)), (m_l, .inl (cI, 45451, .inl w1)), (m_sc, .inl (cI, 451, .inl (upd sc9 k 3))), (m_so, .inl (cI, 64, .inl vso)), (m_bo, .inl (cI, 301, .inl vbo)), (m_ac, .inl (cI, 301, .inl vac)), (m_dn, .inl (cI, 301, .inl vdn))] := hD
                        refine lv_iinc (v := nI (j + 1)) (lv' := [(5, .int (nI (j + 1))), (8, .int 1), (7, .int 1), (6, .int (nI (px_er op ot om (st + n) (om - i) (n - j)))), (0, .ref mo), (2, .int (nI n)), (3, .int (nI st)), (4, .int (nI i))]) hx hb dX6_write_433 hl (k := 7) rfl (nI_add j 1) (by decide) rfl (fun ls hl => ?_)
                        refine lv_aload_n hx hb dX6_write_436 rfl (lv_at hl 4 rfl) ?_
                        refine lv_dup hx hb dX6_write_437 rfl ?_
                        refine va_get (D := D) (ci := 6) (v := .int (nI k)) (C := RX6) (T := TX6) (N := 28) hx hb hts i_X6 hown hK hP 0 rfl rfl 18 (by decide) w_4 (fun _ h9 => h9) rfl dX6_write_438 ?_
                        refine lv_iconst (v := 1) hx hb dX6_write_441 (by decide) ?_
                        refine lv_iadd hx hb dX6_write_442 ?_
                        refine lv_cv (y := nI (k + 1)) (nI_1 k) ?_
                        refine va_put (D := D) (ci := 6) (v := .int (nI (k + 1))) (ty := .int) (C := RX6) (T := TX6) (N := 28) hx hb hts i_X6 tyX6 tyX6_ok nmX6 hown hK hP hD hS 0 rfl rfl 18 (by decide) w_4 (fun _ h9 => h9) rfl (by decide +kernel) rfl rfl (Nat.le_of_ble_eq_true rfl) dX6_write_443 (fun H locs hP hD hS => ?_)
                        have hP : va_P D vwCl [(mo, .inr (6, [.int th, .ref m_p, .ref m_t, .int (nI mm), .int (nI nn), .ref m_op, .ref m_ot, .int (nI om), .int (nI on), .int (nI cnt), .ref m_e, .ref m_d, .ref m_s, .ref m_b, .ref m_n, .ref m_bb, .ref m_bg, .ref m_l, .int (nI (k + 1)), .ref m_sc, .ref m_so, .int oo, .int xx, .ref m_bo, .ref m_ac, .ref m_dn, .int bp, .int bt])), (m_p, .inl (cI, 150, .inl pp)), (m_t, .inl (cI, 300, .inl tt)), (m_op, .inl (cI, 150, .inl op)), (m_ot, .inl (cI, 300, .inl ot)), (m_e, .inl (cI, 301, .inl fe)), (m_d, .inl (cI, 301, .inl fd)), (m_s, .inl (cI, 301, .inl fs)), (m_b, .inl (cI, 151, .inl vb)), (m_n, .inl (cI, 151, .inl vn)), (m_bb, .inl (cI, 151, .inl vbb)), (m_bg, .inl (cI, 151, .inl vbg)), (m_l, .inl (cI, 45451, .inl w1)), (m_sc, .inl (cI, 451, .inl (upd sc9 k 3))), (m_so, .inl (cI, 64, .inl vso)), (m_bo, .inl (cI, 301, .inl vbo)), (m_ac, .inl (cI, 301, .inl vac)), (m_dn, .inl (cI, 301, .inl vdn))] H := hP
                        have hD : va_D A [(mo, .inr (6, [.int th, .ref m_p, .ref m_t, .int (nI mm), .int (nI nn), .ref m_op, .ref m_ot, .int (nI om), .int (nI on), .int (nI cnt), .ref m_e, .ref m_d, .ref m_s, .ref m_b, .ref m_n, .ref m_bb, .ref m_bg, .ref m_l, .int (nI (k + 1)), .ref m_sc, .ref m_so, .int oo, .int xx, .ref m_bo, .ref m_ac, .ref m_dn, .int bp, .int bt])), (m_p, .inl (cI, 150, .inl pp)), (m_t, .inl (cI, 300, .inl tt)), (m_op, .inl (cI, 150, .inl op)), (m_ot, .inl (cI, 300, .inl ot)), (m_e, .inl (cI, 301, .inl fe)), (m_d, .inl (cI, 301, .inl fd)), (m_s, .inl (cI, 301, .inl fs)), (m_b, .inl (cI, 151, .inl vb)), (m_n, .inl (cI, 151, .inl vn)), (m_bb, .inl (cI, 151, .inl vbb)), (m_bg, .inl (cI, 151, .inl vbg)), (m_l, .inl (cI, 45451, .inl w1)), (m_sc, .inl (cI, 451, .inl (upd sc9 k 3))), (m_so, .inl (cI, 64, .inl vso)), (m_bo, .inl (cI, 301, .inl vbo)), (m_ac, .inl (cI, 301, .inl vac)), (m_dn, .inl (cI, 301, .inl vdn))] := hD
                        refine lv_goto (tgt := 238) hx hb dX6_write_446 (by decide) ?_
                        have hs9 : px_st op ot om (st + n) i (st + j) = 3 := by rw [px_st_r]; exact (by have ec : px_ch op ot i (st + j) = 1 := if_neg c_312; rw [if_neg (by omega), if_neg (by omega), ec, if_neg (by omega), if_neg (by omega)])
                        exact ih_238 (om + n - (i + (j + 1))) _ _ _ (by omega) ⟨k + 1, i, j + 1, upd sc9 k 3, px_tr_3 htr hs9, px_un_s htr hun (by omega), px_sc_s htr hsc hs9, rfl, hP, hD, hS, lv_sub hl [4, 5, 6, 7, 0] rfl⟩
                      · have k_404 : px_er op ot om (st + n) (om - i) (n - j) = 1 + (px_er op ot om (st + n) (om - (i + 1)) (n - j)) := (nI_eq (a := px_er op ot om (st + n) (om - i) (n - j)) (b := 1 + (px_er op ot om (st + n) (om - (i + 1)) (n - j))) (by omega) (by omega)).mp c_404
                        refine lv_aload_n hx hb dX6_write_407 rfl (lv_at hl 3 rfl) ?_
                        refine va_get (D := D) (ci := 6) (v := .ref m_sc) (C := RX6) (T := TX6) (N := 28) hx hb hts i_X6 hown hK hP 0 rfl rfl 19 (by decide) w_6 (fun _ h9 => h9) rfl dX6_write_408 ?_
                        refine lv_aload_n hx hb dX6_write_411 rfl (lv_at hl 3 rfl) ?_
                        refine va_get (D := D) (ci := 6) (v := .int (nI k)) (C := RX6) (T := TX6) (N := 28) hx hb hts i_X6 hown hK hP 0 rfl rfl 18 (by decide) w_4 (fun _ h9 => h9) rfl dX6_write_412 ?_
                        refine lv_iconst (v := 2) hx hb dX6_write_415 (by decide) ?_
                        refine va_iastN hx hb hK hP hD hS 13 0 rfl rfl (k := k) (x := 2) (by omega) (by decide) dX6_write_416 (fun H locs hP hD hS => ?_)
                        have hP : va_P D vwCl [(mo, .inr (6, [.int th, .ref m_p, .ref m_t, .int (nI mm), .int (nI nn), .ref m_op, .ref m_ot, .int (nI om), .int (nI on), .int (nI cnt), .ref m_e, .ref m_d, .ref m_s, .ref m_b, .ref m_n, .ref m_bb, .ref m_bg, .ref m_l, .int (nI k), .ref m_sc, .ref m_so, .int oo, .int xx, .ref m_bo, .ref m_ac, .ref m_dn, .int bp, .int bt])), (m_p, .inl (cI, 150, .inl pp)), (m_t, .inl (cI, 300, .inl tt)), (m_op, .inl (cI, 150, .inl op)), (m_ot, .inl (cI, 300, .inl ot)), (m_e, .inl (cI, 301, .inl fe)), (m_d, .inl (cI, 301, .inl fd)), (m_s, .inl (cI, 301, .inl fs)), (m_b, .inl (cI, 151, .inl vb)), (m_n, .inl (cI, 151, .inl vn)), (m_bb, .inl (cI, 151, .inl vbb)), (m_bg, .inl (cI, 151, .inl vbg)), (m_l, .inl (cI, 45451, .inl w1)), (m_sc, .inl (cI, 451, .inl (upd sc9 k 2))), (m_so, .inl (cI, 64, .inl vso)), (m_bo, .inl (cI, 301, .inl vbo)), (m_ac, .inl (cI, 301, .inl vac)), (m_dn, .inl (cI, 301, .inl vdn))] H := hP
                        have hD : va_D A [(mo, .inr (6, [.int th, .ref m_p, .ref m_t, .int (nI mm), .int (nI nn), .ref m_op, .ref m_ot, .int (nI om), .int (nI on), .int (nI cnt), .ref m_e, .ref m_d, .ref m_s, .ref m_b, .ref m_n, .ref m_bb, .ref m_bg, .ref m_l, .int (nI k), .ref m_sc, .ref m_so, .int oo, .int xx, .ref m_bo, .ref m_ac, .ref m_dn, .int bp, .int bt])), (m_p, .inl (cI, 150, .inl pp)), (m_t, .inl (cI, 300, .inl tt)), (m_op, .inl (cI, 150, .inl op)), (m_ot, .inl (cI, 300, .inl ot)), (m_e, .inl (cI, 301, .inl fe)), (m_d, .inl (cI, 301, .inl fd)), (m_s, .inl (cI, 301, .inl fs)), (m_b, .inl (cI, 151, .inl vb)), (m_n, .inl (cI, 151, .inl vn)), (m_bb, .inl (cI, 151, .inl vbb)), (m_bg, .inl (cI, 151, .inl vbg)), (m_l, .inl (cI, 45451, .inl w1)), (m_sc, .inl (cI, 451, .inl (upd sc9 k 2))), (m_so, .inl (cI, 64, .inl vso)), (m_bo, .inl (cI, 301, .inl vbo)), (m_ac, .inl (cI, 301, .inl vac)), (m_dn, .inl (cI, 301, .inl vdn))] := hD
                        refine lv_iinc (v := nI (i + 1)) (lv' := [(4, .int (nI (i + 1))), (8, .int 1), (7, .int 1), (6, .int (nI (px_er op ot om (st + n) (om - i) (n - j)))), (0, .ref mo), (2, .int (nI n)), (3, .int (nI st)), (5, .int (nI j))]) hx hb dX6_write_417 hl (k := 6) rfl (nI_add i 1) (by decide) rfl (fun ls hl => ?_)
                        refine lv_goto (tgt := 436) hx hb dX6_write_420 (by decide) ?_
                        refine lv_aload_n hx hb dX6_write_436 rfl (lv_at hl 4 rfl) ?_
                        refine lv_dup hx hb dX6_write_437 rfl ?_
                        refine va_get (D := D) (ci := 6) (v := .int (nI k)) (C := RX6) (T := TX6) (N := 28) hx hb hts i_X6 hown hK hP 0 rfl rfl 18 (by decide) w_4 (fun _ h9 => h9) rfl dX6_write_438 ?_
                        refine lv_iconst (v := 1) hx hb dX6_write_441 (by decide) ?_
                        refine lv_iadd hx hb dX6_write_442 ?_
                        refine lv_cv (y := nI (k + 1)) (nI_1 k) ?_
                        refine va_put (D := D) (ci := 6) (v := .int (nI (k + 1))) (ty := .int) (C := RX6) (T := TX6) (N := 28) hx hb hts i_X6 tyX6 tyX6_ok nmX6 hown hK hP hD hS 0 rfl rfl 18 (by decide) w_4 (fun _ h9 => h9) rfl (by decide +kernel) rfl rfl (Nat.le_of_ble_eq_true rfl) dX6_write_443 (fun H locs hP hD hS => ?_)
                        have hP : va_P D vwCl [(mo, .inr (6, [.int th, .ref m_p, .ref m_t, .int (nI mm), .int (nI nn), .ref m_op, .ref m_ot, .int (nI om), .int (nI on), .int (nI cnt), .ref m_e, .ref m_d, .ref m_s, .ref m_b, .ref m_n, .ref m_bb, .ref m_bg, .ref m_l, .int (nI (k + 1)), .ref m_sc, .ref m_so, .int oo, .int xx, .ref m_bo, .ref m_ac, .ref m_dn, .int bp, .int bt])), (m_p, .inl (cI, 150, .inl pp)), (m_t, .inl (cI, 300, .inl tt)), (m_op, .inl (cI, 150, .inl op)), (m_ot, .inl (cI, 300, .inl ot)), (m_e, .inl (cI, 301, .inl fe)), (m_d, .inl (cI, 301, .inl fd)), (m_s, .inl (cI, 301, .inl fs)), (m_b, .inl (cI, 151, .inl vb)), (m_n, .inl (cI, 151, .inl vn)), (m_bb, .inl (cI, 151, .inl vbb)), (m_bg, .inl (cI, 151, .inl vbg)), (m_l, .inl (cI, 45451, .inl w1)), (m_sc, .inl (cI, 451, .inl (upd sc9 k 2))), (m_so, .inl (cI, 64, .inl vso)), (m_bo, .inl (cI, 301, .inl vbo)), (m_ac, .inl (cI, 301, .inl vac)), (m_dn, .inl (cI, 301, .inl vdn))] H := hP
                        have hD : va_D A [(mo, .inr (6, [.int th, .ref m_p, .ref m_t, .int (nI mm), .int (nI nn), .ref m_op, .ref m_ot, .int (nI om), .int (nI on), .int (nI cnt), .ref m_e, .ref m_d, .ref m_s, .ref m_b, .ref m_n, .ref m_bb, .ref m_bg, .ref m_l, .int (nI (k + 1)), .ref m_sc, .ref m_so, .int oo, .int xx, .ref m_bo, .ref m_ac, .ref m_dn, .int bp, .int bt])), (m_p, .inl (cI, 150, .inl pp)), (m_t, .inl (cI, 300, .inl tt)), (m_op, .inl (cI, 150, .inl op)), (m_ot, .inl (cI, 300, .inl ot)), (m_e, .inl (cI, 301, .inl fe)), (m_d, .inl (cI, 301, .inl fd)), (m_s, .inl (cI, 301, .inl fs)), (m_b, .inl (cI, 151, .inl vb)), (m_n, .inl (cI, 151, .inl vn)), (m_bb, .inl (cI, 151, .inl vbb)), (m_bg, .inl (cI, 151, .inl vbg)), (m_l, .inl (cI, 45451, .inl w1)), (m_sc, .inl (cI, 451, .inl (upd sc9 k 2))), (m_so, .inl (cI, 64, .inl vso)), (m_bo, .inl (cI, 301, .inl vbo)), (m_ac, .inl (cI, 301, .inl vac)), (m_dn, .inl (cI, 301, .inl vdn))] := hD
                        refine lv_goto (tgt := 238) hx hb dX6_write_446 (by decide) ?_
                        have hs9 : px_st op ot om (st + n) i (st + j) = 2 := by rw [px_st_r]; exact (by have ec : px_ch op ot i (st + j) = 1 := if_neg c_312; rw [if_neg (by omega), if_neg (by omega), ec, if_neg (by omega), if_pos (by omega)])
                        exact ih_238 (om + n - (i + 1 + (j))) _ _ _ (by omega) ⟨k + 1, i + 1, j, upd sc9 k 2, px_tr_2 htr hs9, px_un_s htr hun (by omega), px_sc_s htr hsc hs9, rfl, hP, hD, hS, lv_sub hl [4, 5, 6, 0, 7] rfl⟩
                  · have k_350 : px_er op ot om (st + n) (om - i) (n - j) = 1 + (px_er op ot om (st + n) (om - (i + 1)) (n - (j + 1))) := (nI_eq (a := px_er op ot om (st + n) (om - i) (n - j)) (b := 1 + (px_er op ot om (st + n) (om - (i + 1)) (n - (j + 1)))) (by omega) (by omega)).mp c_350
                    refine lv_aload_n hx hb dX6_write_353 rfl (lv_at hl 3 rfl) ?_
                    refine va_get (D := D) (ci := 6) (v := .ref m_sc) (C := RX6) (T := TX6) (N := 28) hx hb hts i_X6 hown hK hP 0 rfl rfl 19 (by decide) w_6 (fun _ h9 => h9) rfl dX6_write_354 ?_
                    refine lv_aload_n hx hb dX6_write_357 rfl (lv_at hl 3 rfl) ?_
                    refine va_get (D := D) (ci := 6) (v := .int (nI k)) (C := RX6) (T := TX6) (N := 28) hx hb hts i_X6 hown hK hP 0 rfl rfl 18 (by decide) w_4 (fun _ h9 => h9) rfl dX6_write_358 ?_
                    refine lv_iload hx hb dX6_write_361 (lv_at hl 0 rfl) ?_
                    refine va_iastN hx hb hK hP hD hS 13 0 rfl rfl (k := k) (x := 1) (by omega) (by decide) dX6_write_363 (fun H locs hP hD hS => ?_)
                    have hP : va_P D vwCl [(mo, .inr (6, [.int th, .ref m_p, .ref m_t, .int (nI mm), .int (nI nn), .ref m_op, .ref m_ot, .int (nI om), .int (nI on), .int (nI cnt), .ref m_e, .ref m_d, .ref m_s, .ref m_b, .ref m_n, .ref m_bb, .ref m_bg, .ref m_l, .int (nI k), .ref m_sc, .ref m_so, .int oo, .int xx, .ref m_bo, .ref m_ac, .ref m_dn, .int bp, .int bt])), (m_p, .inl (cI, 150, .inl pp)), (m_t, .inl (cI, 300, .inl tt)), (m_op, .inl (cI, 150, .inl op)), (m_ot, .inl (cI, 300, .inl ot)), (m_e, .inl (cI, 301, .inl fe)), (m_d, .inl (cI, 301, .inl fd)), (m_s, .inl (cI, 301, .inl fs)), (m_b, .inl (cI, 151, .inl vb)), (m_n, .inl (cI, 151, .inl vn)), (m_bb, .inl (cI, 151, .inl vbb)), (m_bg, .inl (cI, 151, .inl vbg)), (m_l, .inl (cI, 45451, .inl w1)), (m_sc, .inl (cI, 451, .inl (upd sc9 k 1))), (m_so, .inl (cI, 64, .inl vso)), (m_bo, .inl (cI, 301, .inl vbo)), (m_ac, .inl (cI, 301, .inl vac)), (m_dn, .inl (cI, 301, .inl vdn))] H := hP
                    have hD : va_D A [(mo, .inr (6, [.int th, .ref m_p, .ref m_t, .int (nI mm), .int (nI nn), .ref m_op, .ref m_ot, .int (nI om), .int (nI on), .int (nI cnt), .ref m_e, .ref m_d, .ref m_s, .ref m_b, .ref m_n, .ref m_bb, .ref m_bg, .ref m_l, .int (nI k), .ref m_sc, .ref m_so, .int oo, .int xx, .ref m_bo, .ref m_ac, .ref m_dn, .int bp, .int bt])), (m_p, .inl (cI, 150, .inl pp)), (m_t, .inl (cI, 300, .inl tt)), (m_op, .inl (cI, 150, .inl op)), (m_ot, .inl (cI, 300, .inl ot)), (m_e, .inl (cI, 301, .inl fe)), (m_d, .inl (cI, 301, .inl fd)), (m_s, .inl (cI, 301, .inl fs)), (m_b, .inl (cI, 151, .inl vb)), (m_n, .inl (cI, 151, .inl vn)), (m_bb, .inl (cI, 151, .inl vbb)), (m_bg, .inl (cI, 151, .inl vbg)), (m_l, .inl (cI, 45451, .inl w1)), (m_sc, .inl (cI, 451, .inl (upd sc9 k 1))), (m_so, .inl (cI, 64, .inl vso)), (m_bo, .inl (cI, 301, .inl vbo)), (m_ac, .inl (cI, 301, .inl vac)), (m_dn, .inl (cI, 301, .inl vdn))] := hD
                    refine lv_iinc (v := nI (i + 1)) (lv' := [(4, .int (nI (i + 1))), (8, .int 1), (7, .int 1), (6, .int (nI (px_er op ot om (st + n) (om - i) (n - j)))), (0, .ref mo), (2, .int (nI n)), (3, .int (nI st)), (5, .int (nI j))]) hx hb dX6_write_364 hl (k := 6) rfl (nI_add i 1) (by decide) rfl (fun ls hl => ?_)
                    refine lv_iinc (v := nI (j + 1)) (lv' := [(5, .int (nI (j + 1))), (4, .int (nI (i + 1))), (8, .int 1), (7, .int 1), (6, .int (nI (px_er op ot om (st + n) (om - i) (n - j)))), (0, .ref mo), (2, .int (nI n)), (3, .int (nI st))]) hx hb dX6_write_367 hl (k := 7) rfl (nI_add j 1) (by decide) rfl (fun ls hl => ?_)
                    refine lv_goto (tgt := 436) hx hb dX6_write_370 (by decide) ?_
                    refine lv_aload_n hx hb dX6_write_436 rfl (lv_at hl 5 rfl) ?_
                    refine lv_dup hx hb dX6_write_437 rfl ?_
                    refine va_get (D := D) (ci := 6) (v := .int (nI k)) (C := RX6) (T := TX6) (N := 28) hx hb hts i_X6 hown hK hP 0 rfl rfl 18 (by decide) w_4 (fun _ h9 => h9) rfl dX6_write_438 ?_
                    refine lv_iconst (v := 1) hx hb dX6_write_441 (by decide) ?_
                    refine lv_iadd hx hb dX6_write_442 ?_
                    refine lv_cv (y := nI (k + 1)) (nI_1 k) ?_
                    refine va_put (D := D) (ci := 6) (v := .int (nI (k + 1))) (ty := .int) (C := RX6) (T := TX6) (N := 28) hx hb hts i_X6 tyX6 tyX6_ok nmX6 hown hK hP hD hS 0 rfl rfl 18 (by decide) w_4 (fun _ h9 => h9) rfl (by decide +kernel) rfl rfl (Nat.le_of_ble_eq_true rfl) dX6_write_443 (fun H locs hP hD hS => ?_)
                    have hP : va_P D vwCl [(mo, .inr (6, [.int th, .ref m_p, .ref m_t, .int (nI mm), .int (nI nn), .ref m_op, .ref m_ot, .int (nI om), .int (nI on), .int (nI cnt), .ref m_e, .ref m_d, .ref m_s, .ref m_b, .ref m_n, .ref m_bb, .ref m_bg, .ref m_l, .int (nI (k + 1)), .ref m_sc, .ref m_so, .int oo, .int xx, .ref m_bo, .ref m_ac, .ref m_dn, .int bp, .int bt])), (m_p, .inl (cI, 150, .inl pp)), (m_t, .inl (cI, 300, .inl tt)), (m_op, .inl (cI, 150, .inl op)), (m_ot, .inl (cI, 300, .inl ot)), (m_e, .inl (cI, 301, .inl fe)), (m_d, .inl (cI, 301, .inl fd)), (m_s, .inl (cI, 301, .inl fs)), (m_b, .inl (cI, 151, .inl vb)), (m_n, .inl (cI, 151, .inl vn)), (m_bb, .inl (cI, 151, .inl vbb)), (m_bg, .inl (cI, 151, .inl vbg)), (m_l, .inl (cI, 45451, .inl w1)), (m_sc, .inl (cI, 451, .inl (upd sc9 k 1))), (m_so, .inl (cI, 64, .inl vso)), (m_bo, .inl (cI, 301, .inl vbo)), (m_ac, .inl (cI, 301, .inl vac)), (m_dn, .inl (cI, 301, .inl vdn))] H := hP
                    have hD : va_D A [(mo, .inr (6, [.int th, .ref m_p, .ref m_t, .int (nI mm), .int (nI nn), .ref m_op, .ref m_ot, .int (nI om), .int (nI on), .int (nI cnt), .ref m_e, .ref m_d, .ref m_s, .ref m_b, .ref m_n, .ref m_bb, .ref m_bg, .ref m_l, .int (nI (k + 1)), .ref m_sc, .ref m_so, .int oo, .int xx, .ref m_bo, .ref m_ac, .ref m_dn, .int bp, .int bt])), (m_p, .inl (cI, 150, .inl pp)), (m_t, .inl (cI, 300, .inl tt)), (m_op, .inl (cI, 150, .inl op)), (m_ot, .inl (cI, 300, .inl ot)), (m_e, .inl (cI, 301, .inl fe)), (m_d, .inl (cI, 301, .inl fd)), (m_s, .inl (cI, 301, .inl fs)), (m_b, .inl (cI, 151, .inl vb)), (m_n, .inl (cI, 151, .inl vn)), (m_bb, .inl (cI, 151, .inl vbb)), (m_bg, .inl (cI, 151, .inl vbg)), (m_l, .inl (cI, 45451, .inl w1)), (m_sc, .inl (cI, 451, .inl (upd sc9 k 1))), (m_so, .inl (cI, 64, .inl vso)), (m_bo, .inl (cI, 301, .inl vbo)), (m_ac, .inl (cI, 301, .inl vac)), (m_dn, .inl (cI, 301, .inl vdn))] := hD
                    refine lv_goto (tgt := 238) hx hb dX6_write_446 (by decide) ?_
                    have hs9 : px_st op ot om (st + n) i (st + j) = 1 := by rw [px_st_r]; exact (by have ec : px_ch op ot i (st + j) = 1 := if_neg c_312; rw [if_neg (by omega), if_neg (by omega), ec, if_pos (by omega)]; rfl)
                    exact ih_238 (om + n - (i + 1 + (j + 1))) _ _ _ (by omega) ⟨k + 1, i + 1, j + 1, upd sc9 k 1, px_tr_1 htr hs9, px_un_s htr hun (by omega), px_sc_s htr hsc hs9, rfl, hP, hD, hS, lv_sub hl [5, 6, 7, 1, 0] rfl⟩
  · obtain ⟨i, hqi, hxi⟩ := dn_ge hx4 (by omega) c_29
    subst hxi
    refine lv_iload_n hx hb dX6_write_32 rfl (lv_at hl 1 rfl) ?_
    refine lv_istore (lv' := [(5, .int (nI n)), (0, .ref mo), (2, .int (nI n)), (3, .int (nI st)), (4, .int (nI i))]) hx hb dX6_write_33 hl (by decide) rfl (fun ls hl => ?_)
    refine hv_loop (fun zz H locs ls => ∃ (q5 : Nat) (x5 : Int32) (w2 : Nat → Int32), q5 ≤ n + 1 ∧ x5 = nI q5 + (-1) ∧ (∀ i1, i < i1 → i1 ≤ om → ∀ j1, j1 ≤ n → w2 (301 * i1 + j1) = nI (px_er op ot om (st + n) (om - i1) (n - j1))) ∧ (∀ j1, q5 ≤ j1 → j1 ≤ n → w2 (301 * i + j1) = nI (px_er op ot om (st + n) (om - i) (n - j1))) ∧ zz = q5 ∧ va_P D vwCl [(mo, .inr (6, [.int th, .ref m_p, .ref m_t, .int (nI mm), .int (nI nn), .ref m_op, .ref m_ot, .int (nI om), .int (nI on), .int (nI cnt), .ref m_e, .ref m_d, .ref m_s, .ref m_b, .ref m_n, .ref m_bb, .ref m_bg, .ref m_l, .int stp, .ref m_sc, .ref m_so, .int oo, .int xx, .ref m_bo, .ref m_ac, .ref m_dn, .int bp, .int bt])), (m_p, .inl (cI, 150, .inl pp)), (m_t, .inl (cI, 300, .inl tt)), (m_op, .inl (cI, 150, .inl op)), (m_ot, .inl (cI, 300, .inl ot)), (m_e, .inl (cI, 301, .inl fe)), (m_d, .inl (cI, 301, .inl fd)), (m_s, .inl (cI, 301, .inl fs)), (m_b, .inl (cI, 151, .inl vb)), (m_n, .inl (cI, 151, .inl vn)), (m_bb, .inl (cI, 151, .inl vbb)), (m_bg, .inl (cI, 151, .inl vbg)), (m_l, .inl (cI, 45451, .inl w2)), (m_sc, .inl (cI, 451, .inl vsc)), (m_so, .inl (cI, 64, .inl vso)), (m_bo, .inl (cI, 301, .inl vbo)), (m_ac, .inl (cI, 301, .inl vac)), (m_dn, .inl (cI, 301, .inl vdn))] H ∧ va_D A [(mo, .inr (6, [.int th, .ref m_p, .ref m_t, .int (nI mm), .int (nI nn), .ref m_op, .ref m_ot, .int (nI om), .int (nI on), .int (nI cnt), .ref m_e, .ref m_d, .ref m_s, .ref m_b, .ref m_n, .ref m_bb, .ref m_bg, .ref m_l, .int stp, .ref m_sc, .ref m_so, .int oo, .int xx, .ref m_bo, .ref m_ac, .ref m_dn, .int bp, .int bt])), (m_p, .inl (cI, 150, .inl pp)), (m_t, .inl (cI, 300, .inl tt)), (m_op, .inl (cI, 150, .inl op)), (m_ot, .inl (cI, 300, .inl ot)), (m_e, .inl (cI, 301, .inl fe)), (m_d, .inl (cI, 301, .inl fd)), (m_s, .inl (cI, 301, .inl fs)), (m_b, .inl (cI, 151, .inl vb)), (m_n, .inl (cI, 151, .inl vn)), (m_bb, .inl (cI, 151, .inl vbb)), (m_bg, .inl (cI, 151, .inl vbg)), (m_l, .inl (cI, 45451, .inl w2)), (m_sc, .inl (cI, 451, .inl vsc)), (m_so, .inl (cI, 64, .inl vso)), (m_bo, .inl (cI, 301, .inl vbo)), (m_ac, .inl (cI, 301, .inl vac)), (m_dn, .inl (cI, 301, .inl vdn))] ∧ va_S A s.heap H locs ∧ lv_has ls 10 [(0, .ref mo), (2, .int (nI n)), (3, .int (nI st)), (4, .int (nI i)), (5, .int x5)]) ?_ _ ⟨n + 1, nI n, w1, by omega, (pk_m1 n).symm, fun i1 h1 h2 j1 h3 => hd4 i1 (by omega) h2 j1 h3, fun j1 h1 h2 => absurd h1 (by omega), rfl, hP, hD, hS, lv_sub hl [1, 2, 3, 4, 0] rfl⟩
    intro zz_35 H locs ls hI ih_35
    obtain ⟨q5, x5, w2, hq5, hx5, hd5, hr5, hzz_35, hP, hD, hS, hl⟩ := hI
    refine lv_iload hx hb dX6_write_35 (lv_at hl 4 rfl) ?_
    refine lv_if_lt (tgt := 221) hx hb dX6_write_37 (by decide) (fun c_37 => ?_) (fun c_37 => ?_)
    · have hq50 := dn_lt hx5 (by omega) c_37
      have hrow9 : ∀ i1, i ≤ i1 → i1 ≤ om → ∀ j1, j1 ≤ n → w2 (301 * i1 + j1) = nI (px_er op ot om (st + n) (om - i1) (n - j1)) := fun i1 h1 h2 j1 h3 => by
        rcases Nat.lt_or_ge i i1 with q | q
        · exact hd5 i1 q h2 j1 h3
        · have e9 : i1 = i := by omega
          subst e9; exact hr5 j1 (by omega) h3
      refine lv_iinc (v := (nI i) + (-1)) (lv' := [(4, .int ((nI i) + (-1))), (0, .ref mo), (2, .int (nI n)), (3, .int (nI st)), (5, .int x5)]) hx hb dX6_write_221 hl (k := 3) rfl (rfl) (by decide) rfl (fun ls hl => ?_)
      refine lv_goto (tgt := 27) hx hb dX6_write_224 (by decide) ?_
      exact ih_27 (i) _ _ _ (by omega) ⟨i, nI i + (-1), w2, by omega, rfl, hrow9, rfl, hP, hD, hS, lv_sub hl [1, 2, 3, 0] rfl⟩
    · obtain ⟨j, hqj, hxj⟩ := dn_ge hx5 (by omega) c_37
      subst hxj
      refine lv_iload hx hb dX6_write_40 (lv_at hl 3 rfl) ?_
      refine lv_aload_n hx hb dX6_write_42 rfl (lv_at hl 0 rfl) ?_
      refine va_get (D := D) (ci := 6) (v := .int (nI om)) (C := RX6) (T := TX6) (N := 28) hx hb hts i_X6 hown hK hP 0 rfl rfl 7 (by decide) w_3 (fun _ h9 => h9) rfl dX6_write_43 ?_
      refine lv_icmp_eq (tgt := 55) hx hb dX6_write_46 (by decide) (fun c_46 => ?_) (fun c_46 => ?_)
      · have k_46 : i = om := (nI_eq (a := i) (b := om) (by omega) (by omega)).mp c_46
        refine lv_aload_n hx hb dX6_write_55 rfl (lv_at hl 0 rfl) ?_
        refine va_get (D := D) (ci := 6) (v := .ref m_l) (C := RX6) (T := TX6) (N := 28) hx hb hts i_X6 hown hK hP 0 rfl rfl 17 (by decide) w_5 (fun _ h9 => h9) rfl dX6_write_56 ?_
        refine lv_sipush (v := 301) hx hb dX6_write_59 (by decide) ?_
        refine lv_iload hx hb dX6_write_62 (lv_at hl 3 rfl) ?_
        refine lv_imul hx hb dX6_write_64 ?_
        refine lv_cv (y := nI (301 * i)) (pk_mul 301 i) ?_
        refine lv_iload hx hb dX6_write_65 (lv_at hl 4 rfl) ?_
        refine lv_iadd hx hb dX6_write_67 ?_
        refine lv_cv (y := nI (301 * i + j)) (nI_add (301 * i) j) ?_
        refine lv_aload_n hx hb dX6_write_68 rfl (lv_at hl 0 rfl) ?_
        refine va_get (D := D) (ci := 6) (v := .int (nI om)) (C := RX6) (T := TX6) (N := 28) hx hb hts i_X6 hown hK hP 0 rfl rfl 7 (by decide) w_3 (fun _ h9 => h9) rfl dX6_write_69 ?_
        refine lv_iload hx hb dX6_write_72 (lv_at hl 3 rfl) ?_
        refine lv_isub hx hb dX6_write_74 ?_
        refine lv_cv (y := nI (om - i)) (pk_sub (by omega)) ?_
        refine lv_iload_n hx hb dX6_write_75 rfl (lv_at hl 1 rfl) ?_
        refine lv_iadd hx hb dX6_write_76 ?_
        refine lv_cv (y := nI (om - i + n)) (nI_add (om - i) n) ?_
        refine lv_iload hx hb dX6_write_77 (lv_at hl 4 rfl) ?_
        refine lv_isub hx hb dX6_write_79 ?_
        refine lv_cv (y := nI (om - i + n - j)) (pk_sub (by omega)) ?_
        refine va_iastN hx hb hK hP hD hS 12 0 rfl rfl (k := 301 * i + j) (x := nI (om - i + n - j)) (by omega) (by decide) dX6_write_80 (fun H locs hP hD hS => ?_)
        have hP : va_P D vwCl [(mo, .inr (6, [.int th, .ref m_p, .ref m_t, .int (nI mm), .int (nI nn), .ref m_op, .ref m_ot, .int (nI om), .int (nI on), .int (nI cnt), .ref m_e, .ref m_d, .ref m_s, .ref m_b, .ref m_n, .ref m_bb, .ref m_bg, .ref m_l, .int stp, .ref m_sc, .ref m_so, .int oo, .int xx, .ref m_bo, .ref m_ac, .ref m_dn, .int bp, .int bt])), (m_p, .inl (cI, 150, .inl pp)), (m_t, .inl (cI, 300, .inl tt)), (m_op, .inl (cI, 150, .inl op)), (m_ot, .inl (cI, 300, .inl ot)), (m_e, .inl (cI, 301, .inl fe)), (m_d, .inl (cI, 301, .inl fd)), (m_s, .inl (cI, 301, .inl fs)), (m_b, .inl (cI, 151, .inl vb)), (m_n, .inl (cI, 151, .inl vn)), (m_bb, .inl (cI, 151, .inl vbb)), (m_bg, .inl (cI, 151, .inl vbg)), (m_l, .inl (cI, 45451, .inl (upd w2 (301 * i + j) (nI (om - i + n - j))))), (m_sc, .inl (cI, 451, .inl vsc)), (m_so, .inl (cI, 64, .inl vso)), (m_bo, .inl (cI, 301, .inl vbo)), (m_ac, .inl (cI, 301, .inl vac)), (m_dn, .inl (cI, 301, .inl vdn))] H := hP
        have hD : va_D A [(mo, .inr (6, [.int th, .ref m_p, .ref m_t, .int (nI mm), .int (nI nn), .ref m_op, .ref m_ot, .int (nI om), .int (nI on), .int (nI cnt), .ref m_e, .ref m_d, .ref m_s, .ref m_b, .ref m_n, .ref m_bb, .ref m_bg, .ref m_l, .int stp, .ref m_sc, .ref m_so, .int oo, .int xx, .ref m_bo, .ref m_ac, .ref m_dn, .int bp, .int bt])), (m_p, .inl (cI, 150, .inl pp)), (m_t, .inl (cI, 300, .inl tt)), (m_op, .inl (cI, 150, .inl op)), (m_ot, .inl (cI, 300, .inl ot)), (m_e, .inl (cI, 301, .inl fe)), (m_d, .inl (cI, 301, .inl fd)), (m_s, .inl (cI, 301, .inl fs)), (m_b, .inl (cI, 151, .inl vb)), (m_n, .inl (cI, 151, .inl vn)), (m_bb, .inl (cI, 151, .inl vbb)), (m_bg, .inl (cI, 151, .inl vbg)), (m_l, .inl (cI, 45451, .inl (upd w2 (301 * i + j) (nI (om - i + n - j))))), (m_sc, .inl (cI, 451, .inl vsc)), (m_so, .inl (cI, 64, .inl vso)), (m_bo, .inl (cI, 301, .inl vbo)), (m_ac, .inl (cI, 301, .inl vac)), (m_dn, .inl (cI, 301, .inl vdn))] := hD
        refine lv_goto (tgt := 215) hx hb dX6_write_81 (by decide) ?_
        refine lv_iinc (v := (nI j) + (-1)) (lv' := [(5, .int ((nI j) + (-1))), (0, .ref mo), (2, .int (nI n)), (3, .int (nI st)), (4, .int (nI i))]) hx hb dX6_write_215 hl (k := 4) rfl (rfl) (by decide) rfl (fun ls hl => ?_)
        refine lv_goto (tgt := 35) hx hb dX6_write_218 (by decide) ?_
        have hv9 : nI (om - i + n - j) = nI (px_er op ot om (st + n) (om - i) (n - j)) := px_wb (by omega) (by omega) (Or.inl k_46)
        exact ih_35 (j) _ _ _ (by omega) ⟨j, nI j + (-1), upd w2 (301 * i + j) (nI (om - i + n - j)), by omega, rfl, fun i1 h1 h2 j1 h3 => (pk_un (by omega)).trans (hd5 i1 h1 h2 j1 h3), fun j1 h1 h2 => by
            by_cases e9 : j1 = j
            · subst e9; exact pk_us.trans hv9
            · exact (pk_un (by omega)).trans (hr5 j1 (by omega) h2)
           , rfl, hP, hD, hS, lv_sub hl [1, 2, 3, 4, 0] rfl⟩
      · have k_46 : ¬ (i = om) := fun q => c_46 ((nI_eq (a := i) (b := om) (by omega) (by omega)).mpr q)
        refine lv_iload hx hb dX6_write_49 (lv_at hl 4 rfl) ?_
        refine lv_iload_n hx hb dX6_write_51 rfl (lv_at hl 1 rfl) ?_
        refine lv_icmp_ne (tgt := 84) hx hb dX6_write_52 (by decide) (fun c_52 => ?_) (fun c_52 => ?_)
        · have k_52 : ¬ (j = n) := fun q => c_52 ((nI_eq (a := j) (b := n) (by omega) (by omega)).mpr q)
          have hlo : i < om := by omega
          have hlj : j < n := by omega
          refine lv_aload_n hx hb dX6_write_84 rfl (lv_at hl 0 rfl) ?_
          refine va_get (D := D) (ci := 6) (v := .ref m_l) (C := RX6) (T := TX6) (N := 28) hx hb hts i_X6 hown hK hP 0 rfl rfl 17 (by decide) w_5 (fun _ h9 => h9) rfl dX6_write_85 ?_
          refine lv_sipush (v := 301) hx hb dX6_write_88 (by decide) ?_
          refine lv_iload hx hb dX6_write_91 (lv_at hl 3 rfl) ?_
          refine lv_imul hx hb dX6_write_93 ?_
          refine lv_cv (y := nI (301 * i)) (pk_mul 301 i) ?_
          refine lv_iload hx hb dX6_write_94 (lv_at hl 4 rfl) ?_
          refine lv_iadd hx hb dX6_write_96 ?_
          refine lv_cv (y := nI (301 * i + j)) (nI_add (301 * i) j) ?_
          refine lv_sipush (v := 302) hx hb dX6_write_97 (by decide) ?_
          refine lv_iadd hx hb dX6_write_100 ?_
          refine lv_cv (y := nI (301 * i + j + 302)) (nI_add (301 * i + j) 302) ?_
          refine va_ialdN hx hb hK hP 12 0 rfl rfl (k := 301 * i + j + 302) (by omega) (by decide) dX6_write_101 ?_
          refine lv_topi (fun y1 ey1 => ?_)
          have hy1 : y1 = nI (px_er op ot om (st + n) (om - (i + 1)) (n - (j + 1))) := ey1.trans (by rw [show 301 * i + j + 302 = 301 * (i + 1) + (j + 1) by omega]; exact hd5 (i + 1) (by omega) (by omega) (j + 1) (by omega))
          refine lv_aload_n hx hb dX6_write_102 rfl (lv_at hl 0 rfl) ?_
          refine va_get (D := D) (ci := 6) (v := .ref m_op) (C := RX6) (T := TX6) (N := 28) hx hb hts i_X6 hown hK hP 0 rfl rfl 5 (by decide) w_7 (fun _ h9 => h9) rfl dX6_write_103 ?_
          refine lv_iload hx hb dX6_write_106 (lv_at hl 3 rfl) ?_
          refine va_ialdN hx hb hK hP 3 0 rfl rfl (k := i) (by omega) (by decide) dX6_write_108 ?_
          refine lv_aload_n hx hb dX6_write_109 rfl (lv_at hl 0 rfl) ?_
          refine va_get (D := D) (ci := 6) (v := .ref m_ot) (C := RX6) (T := TX6) (N := 28) hx hb hts i_X6 hown hK hP 0 rfl rfl 6 (by decide) w_8 (fun _ h9 => h9) rfl dX6_write_110 ?_
          refine lv_iload_n hx hb dX6_write_113 rfl (lv_at hl 2 rfl) ?_
          refine lv_iload hx hb dX6_write_114 (lv_at hl 4 rfl) ?_
          refine lv_iadd hx hb dX6_write_116 ?_
          refine lv_cv (y := nI (st + j)) (nI_add st j) ?_
          refine va_ialdN hx hb hK hP 4 0 rfl rfl (k := st + j) (by omega) (by decide) dX6_write_117 ?_
          refine hv_join 126 (fun H1 locs1 ls1 st1 => ∃ ch : Int32, (ch = if op i = ot (st + j) then 0 else 1) ∧ Value.int ch :: [.int y1] = st1 ∧ H = H1 ∧ locs = locs1 ∧ ls = ls1) ?_ ?_
          · rintro H1 locs1 ls1 st1 ⟨ch, ech, rfl, rfl, rfl, rfl⟩
            refine lv_iadd hx hb dX6_write_126 ?_
            refine lv_istore (lv' := [(6, .int (y1 + ch)), (0, .ref mo), (2, .int (nI n)), (3, .int (nI st)), (4, .int (nI i)), (5, .int (nI j))]) hx hb dX6_write_127 hl (by decide) rfl (fun ls hl => ?_)
            refine lv_aload_n hx hb dX6_write_129 rfl (lv_at hl 1 rfl) ?_
            refine va_get (D := D) (ci := 6) (v := .ref m_l) (C := RX6) (T := TX6) (N := 28) hx hb hts i_X6 hown hK hP 0 rfl rfl 17 (by decide) w_5 (fun _ h9 => h9) rfl dX6_write_130 ?_
            refine lv_sipush (v := 301) hx hb dX6_write_133 (by decide) ?_
            refine lv_iload hx hb dX6_write_136 (lv_at hl 4 rfl) ?_
            refine lv_imul hx hb dX6_write_138 ?_
            refine lv_cv (y := nI (301 * i)) (pk_mul 301 i) ?_
            refine lv_iload hx hb dX6_write_139 (lv_at hl 5 rfl) ?_
            refine lv_iadd hx hb dX6_write_141 ?_
            refine lv_cv (y := nI (301 * i + j)) (nI_add (301 * i) j) ?_
            refine lv_sipush (v := 301) hx hb dX6_write_142 (by decide) ?_
            refine lv_iadd hx hb dX6_write_145 ?_
            refine lv_cv (y := nI (301 * i + j + 301)) (nI_add (301 * i + j) 301) ?_
            refine va_ialdN hx hb hK hP 12 0 rfl rfl (k := 301 * i + j + 301) (by omega) (by decide) dX6_write_146 ?_
            refine lv_topi (fun y2 ey2 => ?_)
            have hy2 : y2 = nI (px_er op ot om (st + n) (om - (i + 1)) (n - j)) := ey2.trans (by rw [show 301 * i + j + 301 = 301 * (i + 1) + j by omega]; exact hd5 (i + 1) (by omega) (by omega) j (by omega))
            refine lv_iconst (v := 1) hx hb dX6_write_147 (by decide) ?_
            refine lv_iadd hx hb dX6_write_148 ?_
            refine lv_istore (lv' := [(7, .int (y2 + 1)), (6, .int (y1 + ch)), (0, .ref mo), (2, .int (nI n)), (3, .int (nI st)), (4, .int (nI i)), (5, .int (nI j))]) hx hb dX6_write_149 hl (by decide) rfl (fun ls hl => ?_)
            refine lv_aload_n hx hb dX6_write_151 rfl (lv_at hl 2 rfl) ?_
            refine va_get (D := D) (ci := 6) (v := .ref m_l) (C := RX6) (T := TX6) (N := 28) hx hb hts i_X6 hown hK hP 0 rfl rfl 17 (by decide) w_5 (fun _ h9 => h9) rfl dX6_write_152 ?_
            refine lv_sipush (v := 301) hx hb dX6_write_155 (by decide) ?_
            refine lv_iload hx hb dX6_write_158 (lv_at hl 5 rfl) ?_
            refine lv_imul hx hb dX6_write_160 ?_
            refine lv_cv (y := nI (301 * i)) (pk_mul 301 i) ?_
            refine lv_iload hx hb dX6_write_161 (lv_at hl 6 rfl) ?_
            refine lv_iadd hx hb dX6_write_163 ?_
            refine lv_cv (y := nI (301 * i + j)) (nI_add (301 * i) j) ?_
            refine lv_iconst (v := 1) hx hb dX6_write_164 (by decide) ?_
            refine lv_iadd hx hb dX6_write_165 ?_
            refine lv_cv (y := nI (301 * i + j + 1)) (nI_add (301 * i + j) 1) ?_
            refine va_ialdN hx hb hK hP 12 0 rfl rfl (k := 301 * i + j + 1) (by omega) (by decide) dX6_write_166 ?_
            refine lv_topi (fun y3 ey3 => ?_)
            have hy3 : y3 = nI (px_er op ot om (st + n) (om - i) (n - (j + 1))) := ey3.trans (by rw [show 301 * i + j + 1 = 301 * i + (j + 1) by omega]; exact hr5 (j + 1) (by omega) (by omega))
            refine lv_iconst (v := 1) hx hb dX6_write_167 (by decide) ?_
            refine lv_iadd hx hb dX6_write_168 ?_
            refine lv_istore (lv' := [(8, .int (y3 + 1)), (7, .int (y2 + 1)), (6, .int (y1 + ch)), (0, .ref mo), (2, .int (nI n)), (3, .int (nI st)), (4, .int (nI i)), (5, .int (nI j))]) hx hb dX6_write_169 hl (by decide) rfl (fun ls hl => ?_)
            refine lv_iload hx hb dX6_write_171 (lv_at hl 2 rfl) ?_
            refine lv_iload hx hb dX6_write_173 (lv_at hl 1 rfl) ?_
            refine hv_join 185 (fun H1 locs1 ls1 st1 => ∃ l1 : Int32, (l1 = if y1 + ch < y2 + 1 then y1 + ch else y2 + 1) ∧ Value.int l1 :: [] = st1 ∧ H = H1 ∧ locs = locs1 ∧ ls = ls1) ?_ ?_
            · rintro H1 locs1 ls1 st1 ⟨l1, el1, rfl, rfl, rfl, rfl⟩
              refine lv_istore (lv' := [(9, .int l1), (8, .int (y3 + 1)), (7, .int (y2 + 1)), (6, .int (y1 + ch)), (0, .ref mo), (2, .int (nI n)), (3, .int (nI st)), (4, .int (nI i)), (5, .int (nI j))]) hx hb dX6_write_185 hl (by decide) rfl (fun ls hl => ?_)
              refine lv_aload_n hx hb dX6_write_187 rfl (lv_at hl 4 rfl) ?_
              refine va_get (D := D) (ci := 6) (v := .ref m_l) (C := RX6) (T := TX6) (N := 28) hx hb hts i_X6 hown hK hP 0 rfl rfl 17 (by decide) w_5 (fun _ h9 => h9) rfl dX6_write_188 ?_
              refine lv_sipush (v := 301) hx hb dX6_write_191 (by decide) ?_
              refine lv_iload hx hb dX6_write_194 (lv_at hl 7 rfl) ?_
              refine lv_imul hx hb dX6_write_196 ?_
              refine lv_cv (y := nI (301 * i)) (pk_mul 301 i) ?_
              refine lv_iload hx hb dX6_write_197 (lv_at hl 8 rfl) ?_
              refine lv_iadd hx hb dX6_write_199 ?_
              refine lv_cv (y := nI (301 * i + j)) (nI_add (301 * i) j) ?_
              refine lv_iload hx hb dX6_write_200 (lv_at hl 1 rfl) ?_
              refine lv_iload hx hb dX6_write_202 (lv_at hl 0 rfl) ?_
              refine hv_join 214 (fun H1 locs1 ls1 st1 => ∃ l2 : Int32, (l2 = if y3 + 1 < l1 then y3 + 1 else l1) ∧ Value.int l2 :: [.int (nI (301 * i + j)), .ref m_l] = st1 ∧ H = H1 ∧ locs = locs1 ∧ ls = ls1) ?_ ?_
              · rintro H1 locs1 ls1 st1 ⟨l2, el2, rfl, rfl, rfl, rfl⟩
                refine va_iastN hx hb hK hP hD hS 12 0 rfl rfl (k := 301 * i + j) (x := l2) (by omega) (by decide) dX6_write_214 (fun H locs hP hD hS => ?_)
                have hP : va_P D vwCl [(mo, .inr (6, [.int th, .ref m_p, .ref m_t, .int (nI mm), .int (nI nn), .ref m_op, .ref m_ot, .int (nI om), .int (nI on), .int (nI cnt), .ref m_e, .ref m_d, .ref m_s, .ref m_b, .ref m_n, .ref m_bb, .ref m_bg, .ref m_l, .int stp, .ref m_sc, .ref m_so, .int oo, .int xx, .ref m_bo, .ref m_ac, .ref m_dn, .int bp, .int bt])), (m_p, .inl (cI, 150, .inl pp)), (m_t, .inl (cI, 300, .inl tt)), (m_op, .inl (cI, 150, .inl op)), (m_ot, .inl (cI, 300, .inl ot)), (m_e, .inl (cI, 301, .inl fe)), (m_d, .inl (cI, 301, .inl fd)), (m_s, .inl (cI, 301, .inl fs)), (m_b, .inl (cI, 151, .inl vb)), (m_n, .inl (cI, 151, .inl vn)), (m_bb, .inl (cI, 151, .inl vbb)), (m_bg, .inl (cI, 151, .inl vbg)), (m_l, .inl (cI, 45451, .inl (upd w2 (301 * i + j) l2))), (m_sc, .inl (cI, 451, .inl vsc)), (m_so, .inl (cI, 64, .inl vso)), (m_bo, .inl (cI, 301, .inl vbo)), (m_ac, .inl (cI, 301, .inl vac)), (m_dn, .inl (cI, 301, .inl vdn))] H := hP
                have hD : va_D A [(mo, .inr (6, [.int th, .ref m_p, .ref m_t, .int (nI mm), .int (nI nn), .ref m_op, .ref m_ot, .int (nI om), .int (nI on), .int (nI cnt), .ref m_e, .ref m_d, .ref m_s, .ref m_b, .ref m_n, .ref m_bb, .ref m_bg, .ref m_l, .int stp, .ref m_sc, .ref m_so, .int oo, .int xx, .ref m_bo, .ref m_ac, .ref m_dn, .int bp, .int bt])), (m_p, .inl (cI, 150, .inl pp)), (m_t, .inl (cI, 300, .inl tt)), (m_op, .inl (cI, 150, .inl op)), (m_ot, .inl (cI, 300, .inl ot)), (m_e, .inl (cI, 301, .inl fe)), (m_d, .inl (cI, 301, .inl fd)), (m_s, .inl (cI, 301, .inl fs)), (m_b, .inl (cI, 151, .inl vb)), (m_n, .inl (cI, 151, .inl vn)), (m_bb, .inl (cI, 151, .inl vbb)), (m_bg, .inl (cI, 151, .inl vbg)), (m_l, .inl (cI, 45451, .inl (upd w2 (301 * i + j) l2))), (m_sc, .inl (cI, 451, .inl vsc)), (m_so, .inl (cI, 64, .inl vso)), (m_bo, .inl (cI, 301, .inl vbo)), (m_ac, .inl (cI, 301, .inl vac)), (m_dn, .inl (cI, 301, .inl vdn))] := hD
                refine lv_iinc (v := (nI j) + (-1)) (lv' := [(5, .int ((nI j) + (-1))), (9, .int l1), (8, .int (y3 + 1)), (7, .int (y2 + 1)), (6, .int (y1 + ch)), (0, .ref mo), (2, .int (nI n)), (3, .int (nI st)), (4, .int (nI i))]) hx hb dX6_write_215 hl (k := 8) rfl (rfl) (by decide) rfl (fun ls hl => ?_)
                refine lv_goto (tgt := 35) hx hb dX6_write_218 (by decide) ?_
                have hv9 : l2 = nI (px_er op ot om (st + n) (om - i) (n - j)) := px_ws (by omega) (by omega) hlo hlj hy1 hy2 hy3 ech el1 el2
                exact ih_35 (j) _ _ _ (by omega) ⟨j, nI j + (-1), upd w2 (301 * i + j) l2, by omega, rfl, fun i1 h1 h2 j1 h3 => (pk_un (by omega)).trans (hd5 i1 h1 h2 j1 h3), fun j1 h1 h2 => by
                    by_cases e9 : j1 = j
                    · subst e9; exact pk_us.trans hv9
                    · exact (pk_un (by omega)).trans (hr5 j1 (by omega) h2)
                   , rfl, hP, hD, hS, lv_sub hl [5, 6, 7, 8, 0] rfl⟩
              · intro hj_1
                refine lv_icmp_ge (tgt := 212) hx hb dX6_write_204 (by decide) (fun c_204 => ?_) (fun c_204 => ?_)
                · refine lv_iload hx hb dX6_write_212 (lv_at hl 0 rfl) ?_
                  exact hj_1 _ _ _ _ ⟨l1, (if_neg (Int32.not_lt.mpr c_204)).symm, rfl, rfl, rfl, rfl⟩
                · refine lv_iload hx hb dX6_write_207 (lv_at hl 1 rfl) ?_
                  refine lv_goto (tgt := 214) hx hb dX6_write_209 (by decide) ?_
                  exact hj_1 _ _ _ _ ⟨y3 + 1, (if_pos (Int32.not_le.mp c_204)).symm, rfl, rfl, rfl, rfl⟩
            · intro hj_2
              refine lv_icmp_ge (tgt := 183) hx hb dX6_write_175 (by decide) (fun c_175 => ?_) (fun c_175 => ?_)
              · refine lv_iload hx hb dX6_write_183 (lv_at hl 1 rfl) ?_
                exact hj_2 _ _ _ _ ⟨y2 + 1, (if_neg (Int32.not_lt.mpr c_175)).symm, rfl, rfl, rfl, rfl⟩
              · refine lv_iload hx hb dX6_write_178 (lv_at hl 2 rfl) ?_
                refine lv_goto (tgt := 185) hx hb dX6_write_180 (by decide) ?_
                exact hj_2 _ _ _ _ ⟨y1 + ch, (if_pos (Int32.not_le.mp c_175)).symm, rfl, rfl, rfl, rfl⟩
          · intro hj_3
            refine lv_icmp_ne (tgt := 125) hx hb dX6_write_118 (by decide) (fun c_118 => ?_) (fun c_118 => ?_)
            · refine lv_iconst (v := 1) hx hb dX6_write_125 (by decide) ?_
              exact hj_3 _ _ _ _ ⟨1, (if_neg c_118).symm, rfl, rfl, rfl, rfl⟩
            · refine lv_iconst (v := 0) hx hb dX6_write_121 (by decide) ?_
              refine lv_goto (tgt := 126) hx hb dX6_write_122 (by decide) ?_
              exact hj_3 _ _ _ _ ⟨0, (if_pos c_118).symm, rfl, rfl, rfl, rfl⟩
        · have k_52 : j = n := (nI_eq (a := j) (b := n) (by omega) (by omega)).mp c_52
          refine lv_aload_n hx hb dX6_write_55 rfl (lv_at hl 0 rfl) ?_
          refine va_get (D := D) (ci := 6) (v := .ref m_l) (C := RX6) (T := TX6) (N := 28) hx hb hts i_X6 hown hK hP 0 rfl rfl 17 (by decide) w_5 (fun _ h9 => h9) rfl dX6_write_56 ?_
          refine lv_sipush (v := 301) hx hb dX6_write_59 (by decide) ?_
          refine lv_iload hx hb dX6_write_62 (lv_at hl 3 rfl) ?_
          refine lv_imul hx hb dX6_write_64 ?_
          refine lv_cv (y := nI (301 * i)) (pk_mul 301 i) ?_
          refine lv_iload hx hb dX6_write_65 (lv_at hl 4 rfl) ?_
          refine lv_iadd hx hb dX6_write_67 ?_
          refine lv_cv (y := nI (301 * i + j)) (nI_add (301 * i) j) ?_
          refine lv_aload_n hx hb dX6_write_68 rfl (lv_at hl 0 rfl) ?_
          refine va_get (D := D) (ci := 6) (v := .int (nI om)) (C := RX6) (T := TX6) (N := 28) hx hb hts i_X6 hown hK hP 0 rfl rfl 7 (by decide) w_3 (fun _ h9 => h9) rfl dX6_write_69 ?_
          refine lv_iload hx hb dX6_write_72 (lv_at hl 3 rfl) ?_
          refine lv_isub hx hb dX6_write_74 ?_
          refine lv_cv (y := nI (om - i)) (pk_sub (by omega)) ?_
          refine lv_iload_n hx hb dX6_write_75 rfl (lv_at hl 1 rfl) ?_
          refine lv_iadd hx hb dX6_write_76 ?_
          refine lv_cv (y := nI (om - i + n)) (nI_add (om - i) n) ?_
          refine lv_iload hx hb dX6_write_77 (lv_at hl 4 rfl) ?_
          refine lv_isub hx hb dX6_write_79 ?_
          refine lv_cv (y := nI (om - i + n - j)) (pk_sub (by omega)) ?_
          refine va_iastN hx hb hK hP hD hS 12 0 rfl rfl (k := 301 * i + j) (x := nI (om - i + n - j)) (by omega) (by decide) dX6_write_80 (fun H locs hP hD hS => ?_)
          have hP : va_P D vwCl [(mo, .inr (6, [.int th, .ref m_p, .ref m_t, .int (nI mm), .int (nI nn), .ref m_op, .ref m_ot, .int (nI om), .int (nI on), .int (nI cnt), .ref m_e, .ref m_d, .ref m_s, .ref m_b, .ref m_n, .ref m_bb, .ref m_bg, .ref m_l, .int stp, .ref m_sc, .ref m_so, .int oo, .int xx, .ref m_bo, .ref m_ac, .ref m_dn, .int bp, .int bt])), (m_p, .inl (cI, 150, .inl pp)), (m_t, .inl (cI, 300, .inl tt)), (m_op, .inl (cI, 150, .inl op)), (m_ot, .inl (cI, 300, .inl ot)), (m_e, .inl (cI, 301, .inl fe)), (m_d, .inl (cI, 301, .inl fd)), (m_s, .inl (cI, 301, .inl fs)), (m_b, .inl (cI, 151, .inl vb)), (m_n, .inl (cI, 151, .inl vn)), (m_bb, .inl (cI, 151, .inl vbb)), (m_bg, .inl (cI, 151, .inl vbg)), (m_l, .inl (cI, 45451, .inl (upd w2 (301 * i + j) (nI (om - i + n - j))))), (m_sc, .inl (cI, 451, .inl vsc)), (m_so, .inl (cI, 64, .inl vso)), (m_bo, .inl (cI, 301, .inl vbo)), (m_ac, .inl (cI, 301, .inl vac)), (m_dn, .inl (cI, 301, .inl vdn))] H := hP
          have hD : va_D A [(mo, .inr (6, [.int th, .ref m_p, .ref m_t, .int (nI mm), .int (nI nn), .ref m_op, .ref m_ot, .int (nI om), .int (nI on), .int (nI cnt), .ref m_e, .ref m_d, .ref m_s, .ref m_b, .ref m_n, .ref m_bb, .ref m_bg, .ref m_l, .int stp, .ref m_sc, .ref m_so, .int oo, .int xx, .ref m_bo, .ref m_ac, .ref m_dn, .int bp, .int bt])), (m_p, .inl (cI, 150, .inl pp)), (m_t, .inl (cI, 300, .inl tt)), (m_op, .inl (cI, 150, .inl op)), (m_ot, .inl (cI, 300, .inl ot)), (m_e, .inl (cI, 301, .inl fe)), (m_d, .inl (cI, 301, .inl fd)), (m_s, .inl (cI, 301, .inl fs)), (m_b, .inl (cI, 151, .inl vb)), (m_n, .inl (cI, 151, .inl vn)), (m_bb, .inl (cI, 151, .inl vbb)), (m_bg, .inl (cI, 151, .inl vbg)), (m_l, .inl (cI, 45451, .inl (upd w2 (301 * i + j) (nI (om - i + n - j))))), (m_sc, .inl (cI, 451, .inl vsc)), (m_so, .inl (cI, 64, .inl vso)), (m_bo, .inl (cI, 301, .inl vbo)), (m_ac, .inl (cI, 301, .inl vac)), (m_dn, .inl (cI, 301, .inl vdn))] := hD
          refine lv_goto (tgt := 215) hx hb dX6_write_81 (by decide) ?_
          refine lv_iinc (v := (nI j) + (-1)) (lv' := [(5, .int ((nI j) + (-1))), (0, .ref mo), (2, .int (nI n)), (3, .int (nI st)), (4, .int (nI i))]) hx hb dX6_write_215 hl (k := 4) rfl (rfl) (by decide) rfl (fun ls hl => ?_)
          refine lv_goto (tgt := 35) hx hb dX6_write_218 (by decide) ?_
          have hv9 : nI (om - i + n - j) = nI (px_er op ot om (st + n) (om - i) (n - j)) := px_wb (by omega) (by omega) (Or.inr k_52)
          exact ih_35 (j) _ _ _ (by omega) ⟨j, nI j + (-1), upd w2 (301 * i + j) (nI (om - i + n - j)), by omega, rfl, fun i1 h1 h2 j1 h3 => (pk_un (by omega)).trans (hd5 i1 h1 h2 j1 h3), fun j1 h1 h2 => by
              by_cases e9 : j1 = j
              · subst e9; exact pk_us.trans hv9
              · exact (pk_un (by omega)).trans (hr5 j1 (by omega) h2)
             , rfl, hP, hD, hS, lv_sub hl [1, 2, 3, 4, 0] rfl⟩
