set_option maxHeartbeats 4000000 in
set_option maxRecDepth 100000 in
theorem c_L_feed_0 (l : Launch) (D : va_G) (cI cJ cL : ClassId) (sz : Nat) (x : Nat) (xp : Nat) (xt : Nat) (so : Nat) (g : Nat) (sc : Nat) (fo : Nat) (sof : Int32) (xpa : Nat) (mm : Nat) (pp : Nat → Int32) (rw : Int32) (wa : Int32) (wb : Int32) (wc : Int32) (wd : Int32) (ou : Nat) (fo9 : Nat → Int64) (h0 : rw = 0) (hf : mm + px_fn wa wb wc wd ≤ 150) :
    Met l yL_feed wsL_feed { frames := 2, cells := 0, slots := 0, locals := 49 } (va_Pc [.ref x, .int rw, .int wa, .int wb, .int wc, .int wd, .ref ou] (Wd D [(cI, .int), (cJ, .array .int), (cL, .long)] [(x, .inr (5, [.ref xp, .ref xt, .ref so, .ref g, .ref sc, .ref fo, .int sof])), (xp, .inr (4, [.ref xpa, .int (nI mm)])), (xpa, .inl (cI, 150, .inl pp)), (ou, .inl (cL, 1, .inr (.inl fo9)))] sz))
      (va_Qi (fun (r : Int32) (_ : Unit) => r = 0) (fun _ => Wa D [(cI, .int), (cJ, .array .int), (cL, .long)] (va_A [(x, .inr (5, [.ref xp, .ref xt, .ref so, .ref g, .ref sc, .ref fo, .int sof])), (xp, .inr (4, [.ref xpa, .int (nI mm)])), (xpa, .inl (cI, 150, .inl pp)), (ou, .inl (cL, 1, .inr (.inl fo9)))] sz) ([(x, .inr (5, [.ref xp, .ref xt, .ref so, .ref g, .ref sc, .ref fo, .int sof])), (xp, .inr (4, [.ref xpa, .int (nI ((px_f wa wb wc wd (mm, pp)).1))])), (xpa, .inl (cI, 150, .inl ((px_f wa wb wc wd (mm, pp)).2))), (ou, .inl (cL, 1, .inr (.inl (vp_updL fo9 0 (nI (px_f wa wb wc wd (mm, pp)).1).toInt64))))])) (va_A [(x, .inr (5, [.ref xp, .ref xt, .ref so, .ref g, .ref sc, .ref fo, .int sof])), (xp, .inr (4, [.ref xpa, .int (nI mm)])), (xpa, .inl (cI, 150, .inl pp)), (ou, .inl (cL, 1, .inr (.inl fo9)))] sz)) 0 0 (va_A [(x, .inr (5, [.ref xp, .ref xt, .ref so, .ref g, .ref sc, .ref fo, .int sof])), (xp, .inr (4, [.ref xpa, .int (nI mm)])), (xpa, .inl (cI, 150, .inl pp)), (ou, .inl (cL, 1, .inr (.inl fo9)))] sz) := by
  refine va_MetW (hh := [(0, 16, 19, 13), (0, 16, 23, 15)]) (cc := cL_feed) (maxL := 8) (ret := (some .int)) (by decide) rfl ?_
  intro p e s m args below meth c s₁ B hml hv
  obtain ⟨rfl, hsz, hP, hK, hD0⟩ := hv
  have hx := B.exec
  have hb := B.bytes
  have hr := B.returns
  have hts := atoms_spec (ws := wsL_feed) B.pre
  have hown : s.vm.findClass RL = some m.cls := findClass_of_methodNamed B.named
  have hlocks := B.notSynchronized
  subst hsz
  have hD := hD0.self (sz := s.heap.size)
  generalize hAe : va_A [(x, .inr (5, [.ref xp, .ref xt, .ref so, .ref g, .ref sc, .ref fo, .int sof])), (xp, .inr (4, [.ref xpa, .int (nI mm)])), (xpa, .inl (cI, 150, .inl pp)), (ou, .inl (cL, 1, .inr (.inl fo9)))] s.heap.size = A at hD ⊢
  have hA : ∀ q : Nat, s.heap.size ≤ q → A q := fun q h => by rw [← hAe]; exact Or.inr h
  have hl := lv_entry ([.ref x, .int rw, .int wa, .int wb, .int wc, .int wd, .ref ou]) (n := 8) (Nat.le_of_ble_eq_true rfl)
  rw [lg_entry_eq]
  generalize (lg_sl ([.ref x, .int rw, .int wa, .int wb, .int wc, .int wd, .ref ou]) ++ List.replicate (8 - (lg_sl ([.ref x, .int rw, .int wa, .int wb, .int wc, .int wd, .ref ou])).length) Slot.unset).toArray = ls at hl ⊢
  have hl : lv_has ls 8 [(0, .ref x), (1, .int rw), (2, .int wa), (3, .int wb), (4, .int wc), (5, .int wd), (6, .ref ou)] := hl
  refine hv_start (A := A) (ws := [(x, .inr (5, [.ref xp, .ref xt, .ref so, .ref g, .ref sc, .ref fo, .int sof])), (xp, .inr (4, [.ref xpa, .int (nI mm)])), (xpa, .inl (cI, 150, .inl pp)), (ou, .inl (cL, 1, .inr (.inl fo9)))]) hP (fun H locs hP hS => ?_)
  refine lv_aload hx hb dL_feed_0 (lv_at hl 6 rfl) ?_
  refine lv_iconst (v := 0) hx hb dL_feed_2 (by decide) ?_
  refine lv_aload_n hx hb dL_feed_3 rfl (lv_at hl 0 rfl) ?_
  refine lv_iload_n hx hb dL_feed_4 rfl (lv_at hl 1 rfl) ?_
  refine lv_iload_n hx hb dL_feed_5 rfl (lv_at hl 2 rfl) ?_
  refine lv_iload_n hx hb dL_feed_6 rfl (lv_at hl 3 rfl) ?_
  refine lv_iload hx hb dL_feed_7 (lv_at hl 4 rfl) ?_
  refine lv_iload hx hb dL_feed_9 (lv_at hl 5 rfl) ?_
  have fr := fr_x (wc := [(x, .inr (5, [.ref xp, .ref xt, .ref so, .ref g, .ref sc, .ref fo, .int sof])), (xp, .inr (4, [.ref xpa, .int (nI mm)])), (xpa, .inl (cI, 150, .inl pp))]) (wr := [(ou, .inl (cL, 1, .inr (.inl fo9)))]) hP hD hS hA [0, 1, 2] [3] rfl rfl (by decide) (by decide) (by decide)
  refine cv_i (J := fun _ => [(x, .inr (5, [.ref xp, .ref xt, .ref so, .ref g, .ref sc, .ref fo, .int sof])), (xp, .inr (4, [.ref xpa, .int (nI ((px_f wa wb wc wd (mm, pp)).1))])), (xpa, .inl (cI, 150, .inl ((px_f wa wb wc wd (mm, pp)).2))), (ou, .inl (cL, 1, .inr (.inl fo9)))]) (As := [.int rw, .int wa, .int wb, .int wc, .int wd]) (rest := [.int 0, .ref ou]) (q0 := 0) (ci := 5) ⟨hx, hb, hml, hown, hts⟩ (c_X5_feed_0 l D cI cJ cL H.size x xp xt so g sc fo sof xpa mm pp rw wa wb wc wd h0 hf) (cwV 5 hts gL_feed_X5_feed rfl rfl rfl (by decide +kernel) ⟨Nat.le_of_ble_eq_true rfl, Nat.le_of_ble_eq_true rfl⟩) hK fr.1 fr.2.1 fr.2.2.1 (fun H1 u hk h1 h2 => ⟨(fr.2.2.2 _ H1 hk h1 h2).1.sub [1, 2, 3, 0] rfl, (fr.2.2.2 _ H1 hk h1 h2).2.sub [1, 2, 3, 0] (by decide) rfl⟩) hS rfl rfl rfl rfl hl.1 rfl (Nat.le_of_ble_eq_true rfl) dL_feed_11 ⟨Nat.zero_le _, Nat.zero_le _⟩ (fun r_2 u_1 H locs hw hP hD hS => ?_)
  refine lv_cv (y := nI (px_f wa wb wc wd (mm, pp)).1) hw ?_
  refine lv_i2l hx hb dL_feed_14 rfl ?_
  refine va_lastN hx hb hK hP hD hS 3 2 rfl rfl (x := (nI (px_f wa wb wc wd (mm, pp)).1).toInt64) (by decide) (by decide) dL_feed_15 (fun H locs hP hD hS => ?_)
  have hP : va_P D vwCl [(x, .inr (5, [.ref xp, .ref xt, .ref so, .ref g, .ref sc, .ref fo, .int sof])), (xp, .inr (4, [.ref xpa, .int (nI ((px_f wa wb wc wd (mm, pp)).1))])), (xpa, .inl (cI, 150, .inl ((px_f wa wb wc wd (mm, pp)).2))), (ou, .inl (cL, 1, .inr (.inl (vp_updL fo9 0 ((nI (px_f wa wb wc wd (mm, pp)).1).toInt64)))))] H := hP
  have hD : va_D A [(x, .inr (5, [.ref xp, .ref xt, .ref so, .ref g, .ref sc, .ref fo, .int sof])), (xp, .inr (4, [.ref xpa, .int (nI ((px_f wa wb wc wd (mm, pp)).1))])), (xpa, .inl (cI, 150, .inl ((px_f wa wb wc wd (mm, pp)).2))), (ou, .inl (cL, 1, .inr (.inl (vp_updL fo9 0 ((nI (px_f wa wb wc wd (mm, pp)).1).toInt64)))))] := hD
  refine lv_goto (tgt := 27) hx hb dL_feed_16 (by decide) ?_
  refine lv_iconst (v := 0) hx hb dL_feed_27 (by decide) ?_
  exact fin_i () hx hb hr hlocks dL_feed_28 hK hS hP hD rfl

set_option maxHeartbeats 4000000 in
set_option maxRecDepth 100000 in
theorem c_L_feed_1 (l : Launch) (D : va_G) (cI cJ cL : ClassId) (sz : Nat) (x : Nat) (xp : Nat) (xt : Nat) (so : Nat) (g : Nat) (sc : Nat) (fo : Nat) (sof : Int32) (xta : Nat) (nn : Nat) (tt : Nat → Int32) (rw : Int32) (wa : Int32) (wb : Int32) (wc : Int32) (wd : Int32) (ou : Nat) (fo9 : Nat → Int64) (h0 : rw = 1) (hf : nn + px_fn wa wb wc wd ≤ 300) :
    Met l yL_feed wsL_feed { frames := 2, cells := 0, slots := 0, locals := 49 } (va_Pc [.ref x, .int rw, .int wa, .int wb, .int wc, .int wd, .ref ou] (Wd D [(cI, .int), (cJ, .array .int), (cL, .long)] [(x, .inr (5, [.ref xp, .ref xt, .ref so, .ref g, .ref sc, .ref fo, .int sof])), (xt, .inr (4, [.ref xta, .int (nI nn)])), (xta, .inl (cI, 300, .inl tt)), (ou, .inl (cL, 1, .inr (.inl fo9)))] sz))
      (va_Qi (fun (r : Int32) (_ : Unit) => r = 0) (fun _ => Wa D [(cI, .int), (cJ, .array .int), (cL, .long)] (va_A [(x, .inr (5, [.ref xp, .ref xt, .ref so, .ref g, .ref sc, .ref fo, .int sof])), (xt, .inr (4, [.ref xta, .int (nI nn)])), (xta, .inl (cI, 300, .inl tt)), (ou, .inl (cL, 1, .inr (.inl fo9)))] sz) ([(x, .inr (5, [.ref xp, .ref xt, .ref so, .ref g, .ref sc, .ref fo, .int sof])), (xt, .inr (4, [.ref xta, .int (nI ((px_f wa wb wc wd (nn, tt)).1))])), (xta, .inl (cI, 300, .inl ((px_f wa wb wc wd (nn, tt)).2))), (ou, .inl (cL, 1, .inr (.inl (vp_updL fo9 0 (nI (px_f wa wb wc wd (nn, tt)).1).toInt64))))])) (va_A [(x, .inr (5, [.ref xp, .ref xt, .ref so, .ref g, .ref sc, .ref fo, .int sof])), (xt, .inr (4, [.ref xta, .int (nI nn)])), (xta, .inl (cI, 300, .inl tt)), (ou, .inl (cL, 1, .inr (.inl fo9)))] sz)) 0 0 (va_A [(x, .inr (5, [.ref xp, .ref xt, .ref so, .ref g, .ref sc, .ref fo, .int sof])), (xt, .inr (4, [.ref xta, .int (nI nn)])), (xta, .inl (cI, 300, .inl tt)), (ou, .inl (cL, 1, .inr (.inl fo9)))] sz) := by
  refine va_MetW (hh := [(0, 16, 19, 13), (0, 16, 23, 15)]) (cc := cL_feed) (maxL := 8) (ret := (some .int)) (by decide) rfl ?_
  intro p e s m args below meth c s₁ B hml hv
  obtain ⟨rfl, hsz, hP, hK, hD0⟩ := hv
  have hx := B.exec
  have hb := B.bytes
  have hr := B.returns
  have hts := atoms_spec (ws := wsL_feed) B.pre
  have hown : s.vm.findClass RL = some m.cls := findClass_of_methodNamed B.named
  have hlocks := B.notSynchronized
  subst hsz
  have hD := hD0.self (sz := s.heap.size)
  generalize hAe : va_A [(x, .inr (5, [.ref xp, .ref xt, .ref so, .ref g, .ref sc, .ref fo, .int sof])), (xt, .inr (4, [.ref xta, .int (nI nn)])), (xta, .inl (cI, 300, .inl tt)), (ou, .inl (cL, 1, .inr (.inl fo9)))] s.heap.size = A at hD ⊢
  have hA : ∀ q : Nat, s.heap.size ≤ q → A q := fun q h => by rw [← hAe]; exact Or.inr h
  have hl := lv_entry ([.ref x, .int rw, .int wa, .int wb, .int wc, .int wd, .ref ou]) (n := 8) (Nat.le_of_ble_eq_true rfl)
  rw [lg_entry_eq]
  generalize (lg_sl ([.ref x, .int rw, .int wa, .int wb, .int wc, .int wd, .ref ou]) ++ List.replicate (8 - (lg_sl ([.ref x, .int rw, .int wa, .int wb, .int wc, .int wd, .ref ou])).length) Slot.unset).toArray = ls at hl ⊢
  have hl : lv_has ls 8 [(0, .ref x), (1, .int rw), (2, .int wa), (3, .int wb), (4, .int wc), (5, .int wd), (6, .ref ou)] := hl
  refine hv_start (A := A) (ws := [(x, .inr (5, [.ref xp, .ref xt, .ref so, .ref g, .ref sc, .ref fo, .int sof])), (xt, .inr (4, [.ref xta, .int (nI nn)])), (xta, .inl (cI, 300, .inl tt)), (ou, .inl (cL, 1, .inr (.inl fo9)))]) hP (fun H locs hP hS => ?_)
  refine lv_aload hx hb dL_feed_0 (lv_at hl 6 rfl) ?_
  refine lv_iconst (v := 0) hx hb dL_feed_2 (by decide) ?_
  refine lv_aload_n hx hb dL_feed_3 rfl (lv_at hl 0 rfl) ?_
  refine lv_iload_n hx hb dL_feed_4 rfl (lv_at hl 1 rfl) ?_
  refine lv_iload_n hx hb dL_feed_5 rfl (lv_at hl 2 rfl) ?_
  refine lv_iload_n hx hb dL_feed_6 rfl (lv_at hl 3 rfl) ?_
  refine lv_iload hx hb dL_feed_7 (lv_at hl 4 rfl) ?_
  refine lv_iload hx hb dL_feed_9 (lv_at hl 5 rfl) ?_
  have fr := fr_x (wc := [(x, .inr (5, [.ref xp, .ref xt, .ref so, .ref g, .ref sc, .ref fo, .int sof])), (xt, .inr (4, [.ref xta, .int (nI nn)])), (xta, .inl (cI, 300, .inl tt))]) (wr := [(ou, .inl (cL, 1, .inr (.inl fo9)))]) hP hD hS hA [0, 1, 2] [3] rfl rfl (by decide) (by decide) (by decide)
  refine cv_i (J := fun _ => [(x, .inr (5, [.ref xp, .ref xt, .ref so, .ref g, .ref sc, .ref fo, .int sof])), (xt, .inr (4, [.ref xta, .int (nI ((px_f wa wb wc wd (nn, tt)).1))])), (xta, .inl (cI, 300, .inl ((px_f wa wb wc wd (nn, tt)).2))), (ou, .inl (cL, 1, .inr (.inl fo9)))]) (As := [.int rw, .int wa, .int wb, .int wc, .int wd]) (rest := [.int 0, .ref ou]) (q0 := 0) (ci := 5) ⟨hx, hb, hml, hown, hts⟩ (c_X5_feed_1 l D cI cJ cL H.size x xp xt so g sc fo sof xta nn tt rw wa wb wc wd h0 hf) (cwV 5 hts gL_feed_X5_feed rfl rfl rfl (by decide +kernel) ⟨Nat.le_of_ble_eq_true rfl, Nat.le_of_ble_eq_true rfl⟩) hK fr.1 fr.2.1 fr.2.2.1 (fun H1 u hk h1 h2 => ⟨(fr.2.2.2 _ H1 hk h1 h2).1.sub [1, 2, 3, 0] rfl, (fr.2.2.2 _ H1 hk h1 h2).2.sub [1, 2, 3, 0] (by decide) rfl⟩) hS rfl rfl rfl rfl hl.1 rfl (Nat.le_of_ble_eq_true rfl) dL_feed_11 ⟨Nat.zero_le _, Nat.zero_le _⟩ (fun r_2 u_1 H locs hw hP hD hS => ?_)
  refine lv_cv (y := nI (px_f wa wb wc wd (nn, tt)).1) hw ?_
  refine lv_i2l hx hb dL_feed_14 rfl ?_
  refine va_lastN hx hb hK hP hD hS 3 2 rfl rfl (x := (nI (px_f wa wb wc wd (nn, tt)).1).toInt64) (by decide) (by decide) dL_feed_15 (fun H locs hP hD hS => ?_)
  have hP : va_P D vwCl [(x, .inr (5, [.ref xp, .ref xt, .ref so, .ref g, .ref sc, .ref fo, .int sof])), (xt, .inr (4, [.ref xta, .int (nI ((px_f wa wb wc wd (nn, tt)).1))])), (xta, .inl (cI, 300, .inl ((px_f wa wb wc wd (nn, tt)).2))), (ou, .inl (cL, 1, .inr (.inl (vp_updL fo9 0 ((nI (px_f wa wb wc wd (nn, tt)).1).toInt64)))))] H := hP
  have hD : va_D A [(x, .inr (5, [.ref xp, .ref xt, .ref so, .ref g, .ref sc, .ref fo, .int sof])), (xt, .inr (4, [.ref xta, .int (nI ((px_f wa wb wc wd (nn, tt)).1))])), (xta, .inl (cI, 300, .inl ((px_f wa wb wc wd (nn, tt)).2))), (ou, .inl (cL, 1, .inr (.inl (vp_updL fo9 0 ((nI (px_f wa wb wc wd (nn, tt)).1).toInt64)))))] := hD
  refine lv_goto (tgt := 27) hx hb dL_feed_16 (by decide) ?_
  refine lv_iconst (v := 0) hx hb dL_feed_27 (by decide) ?_
  exact fin_i () hx hb hr hlocks dL_feed_28 hK hS hP hD rfl

set_option maxHeartbeats 4000000 in
set_option maxRecDepth 100000 in
theorem c_L_feed_no (l : Launch) (htr : l.stackTraces = false) (D : va_G) (cI cJ cL : ClassId) (sz : Nat) (x : Nat) (xp : Nat) (xt : Nat) (so : Nat) (g : Nat) (sc : Nat) (fo : Nat) (sof : Int32) (rw : Int32) (wa : Int32) (wb : Int32) (wc : Int32) (wd : Int32) (ou : Nat) (fo9 : Nat → Int64) (h0 : ¬ rw = 0) (h1 : ¬ rw = 1) :
    Met l yL_feed wsL_feed { frames := 7, cells := 1, slots := 6, locals := 116 } (va_Pc [.ref x, .int rw, .int wa, .int wb, .int wc, .int wd, .ref ou] (Wx D [(cI, .int), (cJ, .array .int), (cL, .long)] [(x, .inr (5, [.ref xp, .ref xt, .ref so, .ref g, .ref sc, .ref fo, .int sof])), (ou, .inl (cL, 1, .inr (.inl fo9)))] sz))
      (va_Qi (fun (r : Int32) (_ : Unit) => r = 1) (fun _ => Wa D [(cI, .int), (cJ, .array .int), (cL, .long)] (va_A [(x, .inr (5, [.ref xp, .ref xt, .ref so, .ref g, .ref sc, .ref fo, .int sof])), (ou, .inl (cL, 1, .inr (.inl fo9)))] sz) ([(x, .inr (5, [.ref xp, .ref xt, .ref so, .ref g, .ref sc, .ref fo, .int sof])), (ou, .inl (cL, 1, .inr (.inl fo9)))])) (va_A [(x, .inr (5, [.ref xp, .ref xt, .ref so, .ref g, .ref sc, .ref fo, .int sof])), (ou, .inl (cL, 1, .inr (.inl fo9)))] sz)) 1 6 (va_A [(x, .inr (5, [.ref xp, .ref xt, .ref so, .ref g, .ref sc, .ref fo, .int sof])), (ou, .inl (cL, 1, .inr (.inl fo9)))] sz) := by
  refine va_MetW (hh := [(0, 16, 19, 13), (0, 16, 23, 15)]) (cc := cL_feed) (maxL := 8) (ret := (some .int)) (by decide) rfl ?_
  intro p e s m args below meth c s₁ B hml hv
  obtain ⟨rfl, ⟨hsz, hP, hK, hD0⟩, hE⟩ := hv
  have htab := vx_table (x := yL_feed) B (atoms_spec (ws := wsL_feed) B.pre _ List.mem_cons_self)
  have hx := B.exec
  have hb := B.bytes
  have hr := B.returns
  have hts := atoms_spec (ws := wsL_feed) B.pre
  have hown : s.vm.findClass RL = some m.cls := findClass_of_methodNamed B.named
  have hlocks := B.notSynchronized
  subst hsz
  have hD := hD0.self (sz := s.heap.size)
  generalize hAe : va_A [(x, .inr (5, [.ref xp, .ref xt, .ref so, .ref g, .ref sc, .ref fo, .int sof])), (ou, .inl (cL, 1, .inr (.inl fo9)))] s.heap.size = A at hD hE ⊢
  have hA : ∀ q : Nat, s.heap.size ≤ q → A q := fun q h => by rw [← hAe]; exact Or.inr h
  have hl := lv_entry ([.ref x, .int rw, .int wa, .int wb, .int wc, .int wd, .ref ou]) (n := 8) (Nat.le_of_ble_eq_true rfl)
  rw [lg_entry_eq]
  generalize (lg_sl ([.ref x, .int rw, .int wa, .int wb, .int wc, .int wd, .ref ou]) ++ List.replicate (8 - (lg_sl ([.ref x, .int rw, .int wa, .int wb, .int wc, .int wd, .ref ou])).length) Slot.unset).toArray = ls at hl ⊢
  have hl : lv_has ls 8 [(0, .ref x), (1, .int rw), (2, .int wa), (3, .int wb), (4, .int wc), (5, .int wd), (6, .ref ou)] := hl
  refine hv_start (A := A) (ws := [(x, .inr (5, [.ref xp, .ref xt, .ref so, .ref g, .ref sc, .ref fo, .int sof])), (ou, .inl (cL, 1, .inr (.inl fo9)))]) hP (fun H locs hP hS => ?_)
  have w_0 := hts (.classLink RL 13 nse) (by decide +kernel)
  refine lv_aload hx hb dL_feed_0 (lv_at hl 6 rfl) ?_
  refine lv_iconst (v := 0) hx hb dL_feed_2 (by decide) ?_
  refine lv_aload_n hx hb dL_feed_3 rfl (lv_at hl 0 rfl) ?_
  refine lv_iload_n hx hb dL_feed_4 rfl (lv_at hl 1 rfl) ?_
  refine lv_iload_n hx hb dL_feed_5 rfl (lv_at hl 2 rfl) ?_
  refine lv_iload_n hx hb dL_feed_6 rfl (lv_at hl 3 rfl) ?_
  refine lv_iload hx hb dL_feed_7 (lv_at hl 4 rfl) ?_
  refine lv_iload hx hb dL_feed_9 (lv_at hl 5 rfl) ?_
  have fr := fr_x (wc := [(x, .inr (5, [.ref xp, .ref xt, .ref so, .ref g, .ref sc, .ref fo, .int sof]))]) (wr := [(ou, .inl (cL, 1, .inr (.inl fo9)))]) hP hD hS hA [0] [1] rfl rfl (by decide) (by decide) (by decide)
  refine cx_v (E0 := nse) (J := fun _ => [(x, .inr (5, [.ref xp, .ref xt, .ref so, .ref g, .ref sc, .ref fo, .int sof])), (ou, .inl (cL, 1, .inr (.inl fo9)))]) (As := [.int rw, .int wa, .int wb, .int wc, .int wd]) (rest := [.int 0, .ref ou]) (q0 := 0) (ci := 5) ⟨hx, hb, hml, hown, hts⟩ (c_X5_feed_no l htr D cI cJ cL H.size x xp xt so g sc fo sof rw wa wb wc wd h0 h1) (cwV 5 hts gL_feed_X5_feed rfl rfl rfl (by decide +kernel) ⟨Nat.le_of_ble_eq_true rfl, Nat.le_of_ble_eq_true rfl⟩) hK fr.1 fr.2.1 fr.2.2.1 (fun H1 u hk h1 h2 => ⟨(fr.2.2.2 _ H1 hk h1 h2).1.sub [1, 0] rfl, (fr.2.2.2 _ H1 hk h1 h2).2.sub [1, 0] (by decide) rfl⟩) hS hE rfl rfl rfl rfl hl.1 rfl (Nat.le_of_ble_eq_true rfl) dL_feed_11 ⟨Nat.le_of_ble_eq_true rfl, Nat.le_of_ble_eq_true rfl⟩ (fun ce q9 u9 H locs hw hP hD hS hce hcv hcl => ?_)
  refine vx_catch (own := RL) (name := nse) hown [] ⟨0, 16, 19, 13⟩ [⟨0, 16, 23, 15⟩] htab (fun z hz => absurd hz List.not_mem_nil) (by decide) (by decide) w_0 (xK.at hE.2.2.2.2.2 (.castable nse nse) (by decide +kernel)) hce hcv hcl ?_
  refine W.eq (g2 := F0 m 19 ls [.ref q9]) rfl ?_
  refine lv_astore (lv' := [(7, .ref q9), (0, .ref x), (1, .int rw), (2, .int wa), (3, .int wb), (4, .int wc), (5, .int wd), (6, .ref ou)]) hx hb dL_feed_19 hl (by decide) rfl (fun ls hl => ?_)
  refine lv_iconst (v := 1) hx hb dL_feed_21 (by decide) ?_
  refine W.widen (k := 1) (n := 6) (by decide) (by decide) ?_
  exact fin_i () hx hb hr hlocks dL_feed_22 hK hS hP hD rfl

set_option maxHeartbeats 4000000 in
set_option maxRecDepth 100000 in
theorem c_L_feed_f0 (l : Launch) (htr : l.stackTraces = false) (D : va_G) (cI cJ cL : ClassId) (sz : Nat) (x : Nat) (xp : Nat) (xt : Nat) (so : Nat) (g : Nat) (sc : Nat) (fo : Nat) (sof : Int32) (xpa : Nat) (mm : Nat) (pp : Nat → Int32) (rw : Int32) (wa : Int32) (wb : Int32) (wc : Int32) (wd : Int32) (ou : Nat) (fo9 : Nat → Int64) (h0 : rw = 0) (hb9 : mm ≤ 150) (hf : 150 < mm + px_fn wa wb wc wd) :
    Met l yL_feed wsL_feed { frames := 7, cells := 1, slots := 6, locals := 116 } (va_Pc [.ref x, .int rw, .int wa, .int wb, .int wc, .int wd, .ref ou] (Wx D [(cI, .int), (cJ, .array .int), (cL, .long)] [(x, .inr (5, [.ref xp, .ref xt, .ref so, .ref g, .ref sc, .ref fo, .int sof])), (xp, .inr (4, [.ref xpa, .int (nI mm)])), (xpa, .inl (cI, 150, .inl pp)), (ou, .inl (cL, 1, .inr (.inl fo9)))] sz))
      (va_Qi (fun (r : Int32) (_ : Unit) => r = 2) (fun _ => Wa D [(cI, .int), (cJ, .array .int), (cL, .long)] (va_A [(x, .inr (5, [.ref xp, .ref xt, .ref so, .ref g, .ref sc, .ref fo, .int sof])), (xp, .inr (4, [.ref xpa, .int (nI mm)])), (xpa, .inl (cI, 150, .inl pp)), (ou, .inl (cL, 1, .inr (.inl fo9)))] sz) ([(x, .inr (5, [.ref xp, .ref xt, .ref so, .ref g, .ref sc, .ref fo, .int sof])), (xp, .inr (4, [.ref xpa, .int (nI mm)])), (xpa, .inl (cI, 150, .inl pp)), (ou, .inl (cL, 1, .inr (.inl fo9)))])) (va_A [(x, .inr (5, [.ref xp, .ref xt, .ref so, .ref g, .ref sc, .ref fo, .int sof])), (xp, .inr (4, [.ref xpa, .int (nI mm)])), (xpa, .inl (cI, 150, .inl pp)), (ou, .inl (cL, 1, .inr (.inl fo9)))] sz)) 1 6 (va_A [(x, .inr (5, [.ref xp, .ref xt, .ref so, .ref g, .ref sc, .ref fo, .int sof])), (xp, .inr (4, [.ref xpa, .int (nI mm)])), (xpa, .inl (cI, 150, .inl pp)), (ou, .inl (cL, 1, .inr (.inl fo9)))] sz) := by
  refine va_MetW (hh := [(0, 16, 19, 13), (0, 16, 23, 15)]) (cc := cL_feed) (maxL := 8) (ret := (some .int)) (by decide) rfl ?_
  intro p e s m args below meth c s₁ B hml hv
  obtain ⟨rfl, ⟨hsz, hP, hK, hD0⟩, hE⟩ := hv
  have htab := vx_table (x := yL_feed) B (atoms_spec (ws := wsL_feed) B.pre _ List.mem_cons_self)
  have hx := B.exec
  have hb := B.bytes
  have hr := B.returns
  have hts := atoms_spec (ws := wsL_feed) B.pre
  have hown : s.vm.findClass RL = some m.cls := findClass_of_methodNamed B.named
  have hlocks := B.notSynchronized
  subst hsz
  have hD := hD0.self (sz := s.heap.size)
  generalize hAe : va_A [(x, .inr (5, [.ref xp, .ref xt, .ref so, .ref g, .ref sc, .ref fo, .int sof])), (xp, .inr (4, [.ref xpa, .int (nI mm)])), (xpa, .inl (cI, 150, .inl pp)), (ou, .inl (cL, 1, .inr (.inl fo9)))] s.heap.size = A at hD hE ⊢
  have hA : ∀ q : Nat, s.heap.size ≤ q → A q := fun q h => by rw [← hAe]; exact Or.inr h
  have hl := lv_entry ([.ref x, .int rw, .int wa, .int wb, .int wc, .int wd, .ref ou]) (n := 8) (Nat.le_of_ble_eq_true rfl)
  rw [lg_entry_eq]
  generalize (lg_sl ([.ref x, .int rw, .int wa, .int wb, .int wc, .int wd, .ref ou]) ++ List.replicate (8 - (lg_sl ([.ref x, .int rw, .int wa, .int wb, .int wc, .int wd, .ref ou])).length) Slot.unset).toArray = ls at hl ⊢
  have hl : lv_has ls 8 [(0, .ref x), (1, .int rw), (2, .int wa), (3, .int wb), (4, .int wc), (5, .int wd), (6, .ref ou)] := hl
  refine hv_start (A := A) (ws := [(x, .inr (5, [.ref xp, .ref xt, .ref so, .ref g, .ref sc, .ref fo, .int sof])), (xp, .inr (4, [.ref xpa, .int (nI mm)])), (xpa, .inl (cI, 150, .inl pp)), (ou, .inl (cL, 1, .inr (.inl fo9)))]) hP (fun H locs hP hS => ?_)
  have w_0 := hts (.classLink RL 15 ise) (by decide +kernel)
  have w_1 := hts (.classLink RL 13 nse) (by decide +kernel)
  refine lv_aload hx hb dL_feed_0 (lv_at hl 6 rfl) ?_
  refine lv_iconst (v := 0) hx hb dL_feed_2 (by decide) ?_
  refine lv_aload_n hx hb dL_feed_3 rfl (lv_at hl 0 rfl) ?_
  refine lv_iload_n hx hb dL_feed_4 rfl (lv_at hl 1 rfl) ?_
  refine lv_iload_n hx hb dL_feed_5 rfl (lv_at hl 2 rfl) ?_
  refine lv_iload_n hx hb dL_feed_6 rfl (lv_at hl 3 rfl) ?_
  refine lv_iload hx hb dL_feed_7 (lv_at hl 4 rfl) ?_
  refine lv_iload hx hb dL_feed_9 (lv_at hl 5 rfl) ?_
  have fr := fr_x (wc := [(x, .inr (5, [.ref xp, .ref xt, .ref so, .ref g, .ref sc, .ref fo, .int sof])), (xp, .inr (4, [.ref xpa, .int (nI mm)])), (xpa, .inl (cI, 150, .inl pp))]) (wr := [(ou, .inl (cL, 1, .inr (.inl fo9)))]) hP hD hS hA [0, 1, 2] [3] rfl rfl (by decide) (by decide) (by decide)
  refine cx_v (E0 := ise) (J := fun _ => [(x, .inr (5, [.ref xp, .ref xt, .ref so, .ref g, .ref sc, .ref fo, .int sof])), (xp, .inr (4, [.ref xpa, .int (nI mm)])), (xpa, .inl (cI, 150, .inl pp)), (ou, .inl (cL, 1, .inr (.inl fo9)))]) (As := [.int rw, .int wa, .int wb, .int wc, .int wd]) (rest := [.int 0, .ref ou]) (q0 := 0) (ci := 5) ⟨hx, hb, hml, hown, hts⟩ (c_X5_feed_f0 l htr D cI cJ cL H.size x xp xt so g sc fo sof xpa mm pp rw wa wb wc wd h0 hb9 hf) (cwV 5 hts gL_feed_X5_feed rfl rfl rfl (by decide +kernel) ⟨Nat.le_of_ble_eq_true rfl, Nat.le_of_ble_eq_true rfl⟩) hK fr.1 fr.2.1 fr.2.2.1 (fun H1 u hk h1 h2 => ⟨(fr.2.2.2 _ H1 hk h1 h2).1.sub [1, 2, 3, 0] rfl, (fr.2.2.2 _ H1 hk h1 h2).2.sub [1, 2, 3, 0] (by decide) rfl⟩) hS hE rfl rfl rfl rfl hl.1 rfl (Nat.le_of_ble_eq_true rfl) dL_feed_11 ⟨Nat.le_of_ble_eq_true rfl, Nat.le_of_ble_eq_true rfl⟩ (fun ce q9 u9 H locs hw hP hD hS hce hcv hcl => ?_)
  refine vx_catch (own := RL) (name := ise) hown [⟨0, 16, 19, 13⟩] ⟨0, 16, 23, 15⟩ [] htab (fun z hz => by rw [List.mem_singleton.mp hz]; exact Or.inr ⟨(by decide), nse, w_1, hE.2.2.2.1⟩) (by decide) (by decide) w_0 (xK.at hE.2.2.2.2.2 (.castable ise ise) (by decide +kernel)) hce hcv hcl ?_
  refine W.eq (g2 := F0 m 23 ls [.ref q9]) rfl ?_
  refine lv_astore (lv' := [(7, .ref q9), (0, .ref x), (1, .int rw), (2, .int wa), (3, .int wb), (4, .int wc), (5, .int wd), (6, .ref ou)]) hx hb dL_feed_23 hl (by decide) rfl (fun ls hl => ?_)
  refine lv_iconst (v := 2) hx hb dL_feed_25 (by decide) ?_
  refine W.widen (k := 1) (n := 6) (by decide) (by decide) ?_
  exact fin_i () hx hb hr hlocks dL_feed_26 hK hS hP hD rfl

set_option maxHeartbeats 4000000 in
set_option maxRecDepth 100000 in
theorem c_L_feed_f1 (l : Launch) (htr : l.stackTraces = false) (D : va_G) (cI cJ cL : ClassId) (sz : Nat) (x : Nat) (xp : Nat) (xt : Nat) (so : Nat) (g : Nat) (sc : Nat) (fo : Nat) (sof : Int32) (xta : Nat) (nn : Nat) (tt : Nat → Int32) (rw : Int32) (wa : Int32) (wb : Int32) (wc : Int32) (wd : Int32) (ou : Nat) (fo9 : Nat → Int64) (h0 : rw = 1) (hb9 : nn ≤ 300) (hf : 300 < nn + px_fn wa wb wc wd) :
    Met l yL_feed wsL_feed { frames := 7, cells := 1, slots := 6, locals := 116 } (va_Pc [.ref x, .int rw, .int wa, .int wb, .int wc, .int wd, .ref ou] (Wx D [(cI, .int), (cJ, .array .int), (cL, .long)] [(x, .inr (5, [.ref xp, .ref xt, .ref so, .ref g, .ref sc, .ref fo, .int sof])), (xt, .inr (4, [.ref xta, .int (nI nn)])), (xta, .inl (cI, 300, .inl tt)), (ou, .inl (cL, 1, .inr (.inl fo9)))] sz))
      (va_Qi (fun (r : Int32) (_ : Unit) => r = 2) (fun _ => Wa D [(cI, .int), (cJ, .array .int), (cL, .long)] (va_A [(x, .inr (5, [.ref xp, .ref xt, .ref so, .ref g, .ref sc, .ref fo, .int sof])), (xt, .inr (4, [.ref xta, .int (nI nn)])), (xta, .inl (cI, 300, .inl tt)), (ou, .inl (cL, 1, .inr (.inl fo9)))] sz) ([(x, .inr (5, [.ref xp, .ref xt, .ref so, .ref g, .ref sc, .ref fo, .int sof])), (xt, .inr (4, [.ref xta, .int (nI nn)])), (xta, .inl (cI, 300, .inl tt)), (ou, .inl (cL, 1, .inr (.inl fo9)))])) (va_A [(x, .inr (5, [.ref xp, .ref xt, .ref so, .ref g, .ref sc, .ref fo, .int sof])), (xt, .inr (4, [.ref xta, .int (nI nn)])), (xta, .inl (cI, 300, .inl tt)), (ou, .inl (cL, 1, .inr (.inl fo9)))] sz)) 1 6 (va_A [(x, .inr (5, [.ref xp, .ref xt, .ref so, .ref g, .ref sc, .ref fo, .int sof])), (xt, .inr (4, [.ref xta, .int (nI nn)])), (xta, .inl (cI, 300, .inl tt)), (ou, .inl (cL, 1, .inr (.inl fo9)))] sz) := by
  refine va_MetW (hh := [(0, 16, 19, 13), (0, 16, 23, 15)]) (cc := cL_feed) (maxL := 8) (ret := (some .int)) (by decide) rfl ?_
  intro p e s m args below meth c s₁ B hml hv
  obtain ⟨rfl, ⟨hsz, hP, hK, hD0⟩, hE⟩ := hv
  have htab := vx_table (x := yL_feed) B (atoms_spec (ws := wsL_feed) B.pre _ List.mem_cons_self)
  have hx := B.exec
  have hb := B.bytes
  have hr := B.returns
  have hts := atoms_spec (ws := wsL_feed) B.pre
  have hown : s.vm.findClass RL = some m.cls := findClass_of_methodNamed B.named
  have hlocks := B.notSynchronized
  subst hsz
  have hD := hD0.self (sz := s.heap.size)
  generalize hAe : va_A [(x, .inr (5, [.ref xp, .ref xt, .ref so, .ref g, .ref sc, .ref fo, .int sof])), (xt, .inr (4, [.ref xta, .int (nI nn)])), (xta, .inl (cI, 300, .inl tt)), (ou, .inl (cL, 1, .inr (.inl fo9)))] s.heap.size = A at hD hE ⊢
  have hA : ∀ q : Nat, s.heap.size ≤ q → A q := fun q h => by rw [← hAe]; exact Or.inr h
  have hl := lv_entry ([.ref x, .int rw, .int wa, .int wb, .int wc, .int wd, .ref ou]) (n := 8) (Nat.le_of_ble_eq_true rfl)
  rw [lg_entry_eq]
  generalize (lg_sl ([.ref x, .int rw, .int wa, .int wb, .int wc, .int wd, .ref ou]) ++ List.replicate (8 - (lg_sl ([.ref x, .int rw, .int wa, .int wb, .int wc, .int wd, .ref ou])).length) Slot.unset).toArray = ls at hl ⊢
  have hl : lv_has ls 8 [(0, .ref x), (1, .int rw), (2, .int wa), (3, .int wb), (4, .int wc), (5, .int wd), (6, .ref ou)] := hl
  refine hv_start (A := A) (ws := [(x, .inr (5, [.ref xp, .ref xt, .ref so, .ref g, .ref sc, .ref fo, .int sof])), (xt, .inr (4, [.ref xta, .int (nI nn)])), (xta, .inl (cI, 300, .inl tt)), (ou, .inl (cL, 1, .inr (.inl fo9)))]) hP (fun H locs hP hS => ?_)
  have w_0 := hts (.classLink RL 15 ise) (by decide +kernel)
  have w_1 := hts (.classLink RL 13 nse) (by decide +kernel)
  refine lv_aload hx hb dL_feed_0 (lv_at hl 6 rfl) ?_
  refine lv_iconst (v := 0) hx hb dL_feed_2 (by decide) ?_
  refine lv_aload_n hx hb dL_feed_3 rfl (lv_at hl 0 rfl) ?_
  refine lv_iload_n hx hb dL_feed_4 rfl (lv_at hl 1 rfl) ?_
  refine lv_iload_n hx hb dL_feed_5 rfl (lv_at hl 2 rfl) ?_
  refine lv_iload_n hx hb dL_feed_6 rfl (lv_at hl 3 rfl) ?_
  refine lv_iload hx hb dL_feed_7 (lv_at hl 4 rfl) ?_
  refine lv_iload hx hb dL_feed_9 (lv_at hl 5 rfl) ?_
  have fr := fr_x (wc := [(x, .inr (5, [.ref xp, .ref xt, .ref so, .ref g, .ref sc, .ref fo, .int sof])), (xt, .inr (4, [.ref xta, .int (nI nn)])), (xta, .inl (cI, 300, .inl tt))]) (wr := [(ou, .inl (cL, 1, .inr (.inl fo9)))]) hP hD hS hA [0, 1, 2] [3] rfl rfl (by decide) (by decide) (by decide)
  refine cx_v (E0 := ise) (J := fun _ => [(x, .inr (5, [.ref xp, .ref xt, .ref so, .ref g, .ref sc, .ref fo, .int sof])), (xt, .inr (4, [.ref xta, .int (nI nn)])), (xta, .inl (cI, 300, .inl tt)), (ou, .inl (cL, 1, .inr (.inl fo9)))]) (As := [.int rw, .int wa, .int wb, .int wc, .int wd]) (rest := [.int 0, .ref ou]) (q0 := 0) (ci := 5) ⟨hx, hb, hml, hown, hts⟩ (c_X5_feed_f1 l htr D cI cJ cL H.size x xp xt so g sc fo sof xta nn tt rw wa wb wc wd h0 hb9 hf) (cwV 5 hts gL_feed_X5_feed rfl rfl rfl (by decide +kernel) ⟨Nat.le_of_ble_eq_true rfl, Nat.le_of_ble_eq_true rfl⟩) hK fr.1 fr.2.1 fr.2.2.1 (fun H1 u hk h1 h2 => ⟨(fr.2.2.2 _ H1 hk h1 h2).1.sub [1, 2, 3, 0] rfl, (fr.2.2.2 _ H1 hk h1 h2).2.sub [1, 2, 3, 0] (by decide) rfl⟩) hS hE rfl rfl rfl rfl hl.1 rfl (Nat.le_of_ble_eq_true rfl) dL_feed_11 ⟨Nat.le_of_ble_eq_true rfl, Nat.le_of_ble_eq_true rfl⟩ (fun ce q9 u9 H locs hw hP hD hS hce hcv hcl => ?_)
  refine vx_catch (own := RL) (name := ise) hown [⟨0, 16, 19, 13⟩] ⟨0, 16, 23, 15⟩ [] htab (fun z hz => by rw [List.mem_singleton.mp hz]; exact Or.inr ⟨(by decide), nse, w_1, hE.2.2.2.1⟩) (by decide) (by decide) w_0 (xK.at hE.2.2.2.2.2 (.castable ise ise) (by decide +kernel)) hce hcv hcl ?_
  refine W.eq (g2 := F0 m 23 ls [.ref q9]) rfl ?_
  refine lv_astore (lv' := [(7, .ref q9), (0, .ref x), (1, .int rw), (2, .int wa), (3, .int wb), (4, .int wc), (5, .int wd), (6, .ref ou)]) hx hb dL_feed_23 hl (by decide) rfl (fun ls hl => ?_)
  refine lv_iconst (v := 2) hx hb dL_feed_25 (by decide) ?_
  refine W.widen (k := 1) (n := 6) (by decide) (by decide) ?_
  exact fin_i () hx hb hr hlocks dL_feed_26 hK hS hP hD rfl

set_option maxHeartbeats 4000000 in
set_option maxRecDepth 100000 in
theorem c_L_clear_0 (l : Launch) (D : va_G) (cI cJ cL : ClassId) (sz : Nat) (x : Nat) (xp : Nat) (xt : Nat) (so : Nat) (g : Nat) (sc : Nat) (fo : Nat) (sof : Int32) (xpa : Nat) (mm : Nat) (pp : Nat → Int32) (rw : Int32) (ou : Nat) (fo9 : Nat → Int64) (h0 : rw = 0) :
    Met l yL_clear wsL_clear { frames := 2, cells := 0, slots := 0, locals := 43 } (va_Pc [.ref x, .int rw, .ref ou] (Wd D [(cI, .int), (cJ, .array .int), (cL, .long)] [(x, .inr (5, [.ref xp, .ref xt, .ref so, .ref g, .ref sc, .ref fo, .int sof])), (xp, .inr (4, [.ref xpa, .int (nI mm)])), (xpa, .inl (cI, 150, .inl pp)), (ou, .inl (cL, 1, .inr (.inl fo9)))] sz))
      (va_Qi (fun (r : Int32) (_ : Unit) => r = 0) (fun _ => Wa D [(cI, .int), (cJ, .array .int), (cL, .long)] (va_A [(x, .inr (5, [.ref xp, .ref xt, .ref so, .ref g, .ref sc, .ref fo, .int sof])), (xp, .inr (4, [.ref xpa, .int (nI mm)])), (xpa, .inl (cI, 150, .inl pp)), (ou, .inl (cL, 1, .inr (.inl fo9)))] sz) ([(x, .inr (5, [.ref xp, .ref xt, .ref so, .ref g, .ref sc, .ref fo, .int sof])), (xp, .inr (4, [.ref xpa, .int (nI 0)])), (xpa, .inl (cI, 150, .inl pp)), (ou, .inl (cL, 1, .inr (.inl (vp_updL fo9 0 (nI mm).toInt64))))])) (va_A [(x, .inr (5, [.ref xp, .ref xt, .ref so, .ref g, .ref sc, .ref fo, .int sof])), (xp, .inr (4, [.ref xpa, .int (nI mm)])), (xpa, .inl (cI, 150, .inl pp)), (ou, .inl (cL, 1, .inr (.inl fo9)))] sz)) 0 0 (va_A [(x, .inr (5, [.ref xp, .ref xt, .ref so, .ref g, .ref sc, .ref fo, .int sof])), (xp, .inr (4, [.ref xpa, .int (nI mm)])), (xpa, .inl (cI, 150, .inl pp)), (ou, .inl (cL, 1, .inr (.inl fo9)))] sz) := by
  refine va_MetW (hh := [(0, 9, 12, 13)]) (cc := cL_clear) (maxL := 4) (ret := (some .int)) (by decide) rfl ?_
  intro p e s m args below meth c s₁ B hml hv
  obtain ⟨rfl, hsz, hP, hK, hD0⟩ := hv
  have hx := B.exec
  have hb := B.bytes
  have hr := B.returns
  have hts := atoms_spec (ws := wsL_clear) B.pre
  have hown : s.vm.findClass RL = some m.cls := findClass_of_methodNamed B.named
  have hlocks := B.notSynchronized
  subst hsz
  have hD := hD0.self (sz := s.heap.size)
  generalize hAe : va_A [(x, .inr (5, [.ref xp, .ref xt, .ref so, .ref g, .ref sc, .ref fo, .int sof])), (xp, .inr (4, [.ref xpa, .int (nI mm)])), (xpa, .inl (cI, 150, .inl pp)), (ou, .inl (cL, 1, .inr (.inl fo9)))] s.heap.size = A at hD ⊢
  have hA : ∀ q : Nat, s.heap.size ≤ q → A q := fun q h => by rw [← hAe]; exact Or.inr h
  have hl := lv_entry ([.ref x, .int rw, .ref ou]) (n := 4) (Nat.le_of_ble_eq_true rfl)
  rw [lg_entry_eq]
  generalize (lg_sl ([.ref x, .int rw, .ref ou]) ++ List.replicate (4 - (lg_sl ([.ref x, .int rw, .ref ou])).length) Slot.unset).toArray = ls at hl ⊢
  have hl : lv_has ls 4 [(0, .ref x), (1, .int rw), (2, .ref ou)] := hl
  refine hv_start (A := A) (ws := [(x, .inr (5, [.ref xp, .ref xt, .ref so, .ref g, .ref sc, .ref fo, .int sof])), (xp, .inr (4, [.ref xpa, .int (nI mm)])), (xpa, .inl (cI, 150, .inl pp)), (ou, .inl (cL, 1, .inr (.inl fo9)))]) hP (fun H locs hP hS => ?_)
  refine lv_aload_n hx hb dL_clear_0 rfl (lv_at hl 2 rfl) ?_
  refine lv_iconst (v := 0) hx hb dL_clear_1 (by decide) ?_
  refine lv_aload_n hx hb dL_clear_2 rfl (lv_at hl 0 rfl) ?_
  refine lv_iload_n hx hb dL_clear_3 rfl (lv_at hl 1 rfl) ?_
  have fr := fr_x (wc := [(x, .inr (5, [.ref xp, .ref xt, .ref so, .ref g, .ref sc, .ref fo, .int sof])), (xp, .inr (4, [.ref xpa, .int (nI mm)])), (xpa, .inl (cI, 150, .inl pp))]) (wr := [(ou, .inl (cL, 1, .inr (.inl fo9)))]) hP hD hS hA [0, 1, 2] [3] rfl rfl (by decide) (by decide) (by decide)
  refine cv_i (J := fun _ => [(x, .inr (5, [.ref xp, .ref xt, .ref so, .ref g, .ref sc, .ref fo, .int sof])), (xp, .inr (4, [.ref xpa, .int (nI 0)])), (xpa, .inl (cI, 150, .inl pp)), (ou, .inl (cL, 1, .inr (.inl fo9)))]) (As := [.int rw]) (rest := [.int 0, .ref ou]) (q0 := 0) (ci := 5) ⟨hx, hb, hml, hown, hts⟩ (c_X5_clear_0 l D cI cJ cL H.size x xp xt so g sc fo sof xpa mm pp rw h0) (cwV 1 hts gL_clear_X5_clear rfl rfl rfl (by decide +kernel) ⟨Nat.le_of_ble_eq_true rfl, Nat.le_of_ble_eq_true rfl⟩) hK fr.1 fr.2.1 fr.2.2.1 (fun H1 u hk h1 h2 => ⟨(fr.2.2.2 _ H1 hk h1 h2).1.sub [1, 2, 3, 0] rfl, (fr.2.2.2 _ H1 hk h1 h2).2.sub [1, 2, 3, 0] (by decide) rfl⟩) hS rfl rfl rfl rfl hl.1 rfl (Nat.le_of_ble_eq_true rfl) dL_clear_4 ⟨Nat.zero_le _, Nat.zero_le _⟩ (fun r_2 u_1 H locs hw hP hD hS => ?_)
  refine lv_cv (y := nI mm) hw ?_
  refine lv_i2l hx hb dL_clear_7 rfl ?_
  refine va_lastN hx hb hK hP hD hS 3 2 rfl rfl (x := (nI mm).toInt64) (by decide) (by decide) dL_clear_8 (fun H locs hP hD hS => ?_)
  have hP : va_P D vwCl [(x, .inr (5, [.ref xp, .ref xt, .ref so, .ref g, .ref sc, .ref fo, .int sof])), (xp, .inr (4, [.ref xpa, .int (nI 0)])), (xpa, .inl (cI, 150, .inl pp)), (ou, .inl (cL, 1, .inr (.inl (vp_updL fo9 0 ((nI mm).toInt64)))))] H := hP
  have hD : va_D A [(x, .inr (5, [.ref xp, .ref xt, .ref so, .ref g, .ref sc, .ref fo, .int sof])), (xp, .inr (4, [.ref xpa, .int (nI 0)])), (xpa, .inl (cI, 150, .inl pp)), (ou, .inl (cL, 1, .inr (.inl (vp_updL fo9 0 ((nI mm).toInt64)))))] := hD
  refine lv_goto (tgt := 15) hx hb dL_clear_9 (by decide) ?_
  refine lv_iconst (v := 0) hx hb dL_clear_15 (by decide) ?_
  exact fin_i () hx hb hr hlocks dL_clear_16 hK hS hP hD rfl

set_option maxHeartbeats 4000000 in
set_option maxRecDepth 100000 in
theorem c_L_clear_1 (l : Launch) (D : va_G) (cI cJ cL : ClassId) (sz : Nat) (x : Nat) (xp : Nat) (xt : Nat) (so : Nat) (g : Nat) (sc : Nat) (fo : Nat) (sof : Int32) (xta : Nat) (nn : Nat) (tt : Nat → Int32) (rw : Int32) (ou : Nat) (fo9 : Nat → Int64) (h0 : rw = 1) :
    Met l yL_clear wsL_clear { frames := 2, cells := 0, slots := 0, locals := 43 } (va_Pc [.ref x, .int rw, .ref ou] (Wd D [(cI, .int), (cJ, .array .int), (cL, .long)] [(x, .inr (5, [.ref xp, .ref xt, .ref so, .ref g, .ref sc, .ref fo, .int sof])), (xt, .inr (4, [.ref xta, .int (nI nn)])), (xta, .inl (cI, 300, .inl tt)), (ou, .inl (cL, 1, .inr (.inl fo9)))] sz))
      (va_Qi (fun (r : Int32) (_ : Unit) => r = 0) (fun _ => Wa D [(cI, .int), (cJ, .array .int), (cL, .long)] (va_A [(x, .inr (5, [.ref xp, .ref xt, .ref so, .ref g, .ref sc, .ref fo, .int sof])), (xt, .inr (4, [.ref xta, .int (nI nn)])), (xta, .inl (cI, 300, .inl tt)), (ou, .inl (cL, 1, .inr (.inl fo9)))] sz) ([(x, .inr (5, [.ref xp, .ref xt, .ref so, .ref g, .ref sc, .ref fo, .int sof])), (xt, .inr (4, [.ref xta, .int (nI 0)])), (xta, .inl (cI, 300, .inl tt)), (ou, .inl (cL, 1, .inr (.inl (vp_updL fo9 0 (nI nn).toInt64))))])) (va_A [(x, .inr (5, [.ref xp, .ref xt, .ref so, .ref g, .ref sc, .ref fo, .int sof])), (xt, .inr (4, [.ref xta, .int (nI nn)])), (xta, .inl (cI, 300, .inl tt)), (ou, .inl (cL, 1, .inr (.inl fo9)))] sz)) 0 0 (va_A [(x, .inr (5, [.ref xp, .ref xt, .ref so, .ref g, .ref sc, .ref fo, .int sof])), (xt, .inr (4, [.ref xta, .int (nI nn)])), (xta, .inl (cI, 300, .inl tt)), (ou, .inl (cL, 1, .inr (.inl fo9)))] sz) := by
  refine va_MetW (hh := [(0, 9, 12, 13)]) (cc := cL_clear) (maxL := 4) (ret := (some .int)) (by decide) rfl ?_
  intro p e s m args below meth c s₁ B hml hv
  obtain ⟨rfl, hsz, hP, hK, hD0⟩ := hv
  have hx := B.exec
  have hb := B.bytes
  have hr := B.returns
  have hts := atoms_spec (ws := wsL_clear) B.pre
  have hown : s.vm.findClass RL = some m.cls := findClass_of_methodNamed B.named
  have hlocks := B.notSynchronized
  subst hsz
  have hD := hD0.self (sz := s.heap.size)
  generalize hAe : va_A [(x, .inr (5, [.ref xp, .ref xt, .ref so, .ref g, .ref sc, .ref fo, .int sof])), (xt, .inr (4, [.ref xta, .int (nI nn)])), (xta, .inl (cI, 300, .inl tt)), (ou, .inl (cL, 1, .inr (.inl fo9)))] s.heap.size = A at hD ⊢
  have hA : ∀ q : Nat, s.heap.size ≤ q → A q := fun q h => by rw [← hAe]; exact Or.inr h
  have hl := lv_entry ([.ref x, .int rw, .ref ou]) (n := 4) (Nat.le_of_ble_eq_true rfl)
  rw [lg_entry_eq]
  generalize (lg_sl ([.ref x, .int rw, .ref ou]) ++ List.replicate (4 - (lg_sl ([.ref x, .int rw, .ref ou])).length) Slot.unset).toArray = ls at hl ⊢
  have hl : lv_has ls 4 [(0, .ref x), (1, .int rw), (2, .ref ou)] := hl
  refine hv_start (A := A) (ws := [(x, .inr (5, [.ref xp, .ref xt, .ref so, .ref g, .ref sc, .ref fo, .int sof])), (xt, .inr (4, [.ref xta, .int (nI nn)])), (xta, .inl (cI, 300, .inl tt)), (ou, .inl (cL, 1, .inr (.inl fo9)))]) hP (fun H locs hP hS => ?_)
  refine lv_aload_n hx hb dL_clear_0 rfl (lv_at hl 2 rfl) ?_
  refine lv_iconst (v := 0) hx hb dL_clear_1 (by decide) ?_
  refine lv_aload_n hx hb dL_clear_2 rfl (lv_at hl 0 rfl) ?_
  refine lv_iload_n hx hb dL_clear_3 rfl (lv_at hl 1 rfl) ?_
  have fr := fr_x (wc := [(x, .inr (5, [.ref xp, .ref xt, .ref so, .ref g, .ref sc, .ref fo, .int sof])), (xt, .inr (4, [.ref xta, .int (nI nn)])), (xta, .inl (cI, 300, .inl tt))]) (wr := [(ou, .inl (cL, 1, .inr (.inl fo9)))]) hP hD hS hA [0, 1, 2] [3] rfl rfl (by decide) (by decide) (by decide)
  refine cv_i (J := fun _ => [(x, .inr (5, [.ref xp, .ref xt, .ref so, .ref g, .ref sc, .ref fo, .int sof])), (xt, .inr (4, [.ref xta, .int (nI 0)])), (xta, .inl (cI, 300, .inl tt)), (ou, .inl (cL, 1, .inr (.inl fo9)))]) (As := [.int rw]) (rest := [.int 0, .ref ou]) (q0 := 0) (ci := 5) ⟨hx, hb, hml, hown, hts⟩ (c_X5_clear_1 l D cI cJ cL H.size x xp xt so g sc fo sof xta nn tt rw h0) (cwV 1 hts gL_clear_X5_clear rfl rfl rfl (by decide +kernel) ⟨Nat.le_of_ble_eq_true rfl, Nat.le_of_ble_eq_true rfl⟩) hK fr.1 fr.2.1 fr.2.2.1 (fun H1 u hk h1 h2 => ⟨(fr.2.2.2 _ H1 hk h1 h2).1.sub [1, 2, 3, 0] rfl, (fr.2.2.2 _ H1 hk h1 h2).2.sub [1, 2, 3, 0] (by decide) rfl⟩) hS rfl rfl rfl rfl hl.1 rfl (Nat.le_of_ble_eq_true rfl) dL_clear_4 ⟨Nat.zero_le _, Nat.zero_le _⟩ (fun r_2 u_1 H locs hw hP hD hS => ?_)
  refine lv_cv (y := nI nn) hw ?_
  refine lv_i2l hx hb dL_clear_7 rfl ?_
  refine va_lastN hx hb hK hP hD hS 3 2 rfl rfl (x := (nI nn).toInt64) (by decide) (by decide) dL_clear_8 (fun H locs hP hD hS => ?_)
  have hP : va_P D vwCl [(x, .inr (5, [.ref xp, .ref xt, .ref so, .ref g, .ref sc, .ref fo, .int sof])), (xt, .inr (4, [.ref xta, .int (nI 0)])), (xta, .inl (cI, 300, .inl tt)), (ou, .inl (cL, 1, .inr (.inl (vp_updL fo9 0 ((nI nn).toInt64)))))] H := hP
  have hD : va_D A [(x, .inr (5, [.ref xp, .ref xt, .ref so, .ref g, .ref sc, .ref fo, .int sof])), (xt, .inr (4, [.ref xta, .int (nI 0)])), (xta, .inl (cI, 300, .inl tt)), (ou, .inl (cL, 1, .inr (.inl (vp_updL fo9 0 ((nI nn).toInt64)))))] := hD
  refine lv_goto (tgt := 15) hx hb dL_clear_9 (by decide) ?_
  refine lv_iconst (v := 0) hx hb dL_clear_15 (by decide) ?_
  exact fin_i () hx hb hr hlocks dL_clear_16 hK hS hP hD rfl

set_option maxHeartbeats 4000000 in
set_option maxRecDepth 100000 in
theorem c_L_clear_no (l : Launch) (htr : l.stackTraces = false) (D : va_G) (cI cJ cL : ClassId) (sz : Nat) (x : Nat) (xp : Nat) (xt : Nat) (so : Nat) (g : Nat) (sc : Nat) (fo : Nat) (sof : Int32) (rw : Int32) (ou : Nat) (fo9 : Nat → Int64) (h0 : ¬ rw = 0) (h1 : ¬ rw = 1) :
    Met l yL_clear wsL_clear { frames := 7, cells := 1, slots := 6, locals := 113 } (va_Pc [.ref x, .int rw, .ref ou] (Wx D [(cI, .int), (cJ, .array .int), (cL, .long)] [(x, .inr (5, [.ref xp, .ref xt, .ref so, .ref g, .ref sc, .ref fo, .int sof])), (ou, .inl (cL, 1, .inr (.inl fo9)))] sz))
      (va_Qi (fun (r : Int32) (_ : Unit) => r = 1) (fun _ => Wa D [(cI, .int), (cJ, .array .int), (cL, .long)] (va_A [(x, .inr (5, [.ref xp, .ref xt, .ref so, .ref g, .ref sc, .ref fo, .int sof])), (ou, .inl (cL, 1, .inr (.inl fo9)))] sz) ([(x, .inr (5, [.ref xp, .ref xt, .ref so, .ref g, .ref sc, .ref fo, .int sof])), (ou, .inl (cL, 1, .inr (.inl fo9)))])) (va_A [(x, .inr (5, [.ref xp, .ref xt, .ref so, .ref g, .ref sc, .ref fo, .int sof])), (ou, .inl (cL, 1, .inr (.inl fo9)))] sz)) 1 6 (va_A [(x, .inr (5, [.ref xp, .ref xt, .ref so, .ref g, .ref sc, .ref fo, .int sof])), (ou, .inl (cL, 1, .inr (.inl fo9)))] sz) := by
  refine va_MetW (hh := [(0, 9, 12, 13)]) (cc := cL_clear) (maxL := 4) (ret := (some .int)) (by decide) rfl ?_
  intro p e s m args below meth c s₁ B hml hv
  obtain ⟨rfl, ⟨hsz, hP, hK, hD0⟩, hE⟩ := hv
  have htab := vx_table (x := yL_clear) B (atoms_spec (ws := wsL_clear) B.pre _ List.mem_cons_self)
  have hx := B.exec
  have hb := B.bytes
  have hr := B.returns
  have hts := atoms_spec (ws := wsL_clear) B.pre
  have hown : s.vm.findClass RL = some m.cls := findClass_of_methodNamed B.named
  have hlocks := B.notSynchronized
  subst hsz
  have hD := hD0.self (sz := s.heap.size)
  generalize hAe : va_A [(x, .inr (5, [.ref xp, .ref xt, .ref so, .ref g, .ref sc, .ref fo, .int sof])), (ou, .inl (cL, 1, .inr (.inl fo9)))] s.heap.size = A at hD hE ⊢
  have hA : ∀ q : Nat, s.heap.size ≤ q → A q := fun q h => by rw [← hAe]; exact Or.inr h
  have hl := lv_entry ([.ref x, .int rw, .ref ou]) (n := 4) (Nat.le_of_ble_eq_true rfl)
  rw [lg_entry_eq]
  generalize (lg_sl ([.ref x, .int rw, .ref ou]) ++ List.replicate (4 - (lg_sl ([.ref x, .int rw, .ref ou])).length) Slot.unset).toArray = ls at hl ⊢
  have hl : lv_has ls 4 [(0, .ref x), (1, .int rw), (2, .ref ou)] := hl
  refine hv_start (A := A) (ws := [(x, .inr (5, [.ref xp, .ref xt, .ref so, .ref g, .ref sc, .ref fo, .int sof])), (ou, .inl (cL, 1, .inr (.inl fo9)))]) hP (fun H locs hP hS => ?_)
  have w_0 := hts (.classLink RL 13 nse) (by decide +kernel)
  refine lv_aload_n hx hb dL_clear_0 rfl (lv_at hl 2 rfl) ?_
  refine lv_iconst (v := 0) hx hb dL_clear_1 (by decide) ?_
  refine lv_aload_n hx hb dL_clear_2 rfl (lv_at hl 0 rfl) ?_
  refine lv_iload_n hx hb dL_clear_3 rfl (lv_at hl 1 rfl) ?_
  have fr := fr_x (wc := [(x, .inr (5, [.ref xp, .ref xt, .ref so, .ref g, .ref sc, .ref fo, .int sof]))]) (wr := [(ou, .inl (cL, 1, .inr (.inl fo9)))]) hP hD hS hA [0] [1] rfl rfl (by decide) (by decide) (by decide)
  refine cx_v (E0 := nse) (J := fun _ => [(x, .inr (5, [.ref xp, .ref xt, .ref so, .ref g, .ref sc, .ref fo, .int sof])), (ou, .inl (cL, 1, .inr (.inl fo9)))]) (As := [.int rw]) (rest := [.int 0, .ref ou]) (q0 := 0) (ci := 5) ⟨hx, hb, hml, hown, hts⟩ (c_X5_clear_no l htr D cI cJ cL H.size x xp xt so g sc fo sof rw h0 h1) (cwV 1 hts gL_clear_X5_clear rfl rfl rfl (by decide +kernel) ⟨Nat.le_of_ble_eq_true rfl, Nat.le_of_ble_eq_true rfl⟩) hK fr.1 fr.2.1 fr.2.2.1 (fun H1 u hk h1 h2 => ⟨(fr.2.2.2 _ H1 hk h1 h2).1.sub [1, 0] rfl, (fr.2.2.2 _ H1 hk h1 h2).2.sub [1, 0] (by decide) rfl⟩) hS hE rfl rfl rfl rfl hl.1 rfl (Nat.le_of_ble_eq_true rfl) dL_clear_4 ⟨Nat.le_of_ble_eq_true rfl, Nat.le_of_ble_eq_true rfl⟩ (fun ce q9 u9 H locs hw hP hD hS hce hcv hcl => ?_)
  refine vx_catch (own := RL) (name := nse) hown [] ⟨0, 9, 12, 13⟩ [] htab (fun z hz => absurd hz List.not_mem_nil) (by decide) (by decide) w_0 (xK.at hE.2.2.2.2.2 (.castable nse nse) (by decide +kernel)) hce hcv hcl ?_
  refine W.eq (g2 := F0 m 12 ls [.ref q9]) rfl ?_
  refine lv_astore_n (lv' := [(3, .ref q9), (0, .ref x), (1, .int rw), (2, .ref ou)]) hx hb dL_clear_12 rfl hl (by decide) rfl (fun ls hl => ?_)
  refine lv_iconst (v := 1) hx hb dL_clear_13 (by decide) ?_
  refine W.widen (k := 1) (n := 6) (by decide) (by decide) ?_
  exact fin_i () hx hb hr hlocks dL_clear_14 hK hS hP hD rfl

set_option maxHeartbeats 4000000 in
set_option maxRecDepth 100000 in
theorem c_L_search_y (l : Launch) (D : va_G) (cI cJ cL : ClassId) (sz : Nat) (x : Nat) (xp : Nat) (xt : Nat) (so : Nat) (g : Nat) (sc : Nat) (fo : Nat) (sof : Int32) (xpa : Nat) (mm : Nat) (pp : Nat → Int32) (xta : Nat) (nn : Nat) (tt : Nat → Int32) (gp : Nat) (gpa : Nat) (gt : Nat) (gta : Nat) (ge : Nat) (gd : Nat) (gs : Nat) (gn : Nat) (gl : Nat) (om : Nat) (on : Nat) (cnt : Nat) (op : Nat → Int32) (ot : Nat → Int32) (fe : Nat → Int32) (fd : Nat → Int32) (fs : Nat → Int32) (fn : Nat → Int32) (fl : Nat → Int32) (mode : Int32) (bound : Int32) (ou : Nat) (fo9 : Nat → Int64) (h0 : 0 ≤ mode ∧ mode ≤ 2 ∧ 0 ≤ bound ∧ bound ≤ 450) (hmm : mm ≤ 150) (hnn : nn ≤ 300) :
    Met l yL_search wsL_search { frames := 4, cells := 0, slots := 0, locals := 99 } (va_Pc [.ref x, .int mode, .int bound, .ref ou] (Wd D [(cI, .int), (cJ, .array .int), (cL, .long)] [(x, .inr (5, [.ref xp, .ref xt, .ref so, .ref g, .ref sc, .ref fo, .int sof])), (xp, .inr (4, [.ref xpa, .int (nI mm)])), (xpa, .inl (cI, 150, .inl pp)), (xt, .inr (4, [.ref xta, .int (nI nn)])), (xta, .inl (cI, 300, .inl tt)), (g, .inr (0, [.ref gp, .ref gt, .ref ge, .ref gd, .ref gs, .int (nI cnt), .ref gn, .ref gl])), (gp, .inr (4, [.ref gpa, .int (nI om)])), (gpa, .inl (cI, 150, .inl op)), (gt, .inr (4, [.ref gta, .int (nI on)])), (gta, .inl (cI, 300, .inl ot)), (ge, .inl (cI, 301, .inl fe)), (gd, .inl (cI, 301, .inl fd)), (gs, .inl (cI, 301, .inl fs)), (gn, .inl (cI, 151, .inl fn)), (gl, .inl (cI, 151, .inl fl)), (ou, .inl (cL, 1, .inr (.inl fo9)))] sz))
      (va_Qi (fun (r : Int32) (u : (Nat → Int32) × (Nat → Int32)) => r = 0) (fun u => Wa D [(cI, .int), (cJ, .array .int), (cL, .long)] (va_A [(x, .inr (5, [.ref xp, .ref xt, .ref so, .ref g, .ref sc, .ref fo, .int sof])), (xp, .inr (4, [.ref xpa, .int (nI mm)])), (xpa, .inl (cI, 150, .inl pp)), (xt, .inr (4, [.ref xta, .int (nI nn)])), (xta, .inl (cI, 300, .inl tt)), (g, .inr (0, [.ref gp, .ref gt, .ref ge, .ref gd, .ref gs, .int (nI cnt), .ref gn, .ref gl])), (gp, .inr (4, [.ref gpa, .int (nI om)])), (gpa, .inl (cI, 150, .inl op)), (gt, .inr (4, [.ref gta, .int (nI on)])), (gta, .inl (cI, 300, .inl ot)), (ge, .inl (cI, 301, .inl fe)), (gd, .inl (cI, 301, .inl fd)), (gs, .inl (cI, 301, .inl fs)), (gn, .inl (cI, 151, .inl fn)), (gl, .inl (cI, 151, .inl fl)), (ou, .inl (cL, 1, .inr (.inl fo9)))] sz) ([(x, .inr (5, [.ref xp, .ref xt, .ref so, .ref g, .ref sc, .ref fo, .int (-1)])), (xp, .inr (4, [.ref xpa, .int (nI mm)])), (xpa, .inl (cI, 150, .inl pp)), (xt, .inr (4, [.ref xta, .int (nI nn)])), (xta, .inl (cI, 300, .inl tt)), (g, .inr (0, [.ref gp, .ref gt, .ref ge, .ref gd, .ref gs, .int (nI ((px_fnd mm nn (va_cpy pp op 0 0 mm) (va_cpy tt ot 0 0 nn) mode bound (cnt, fe, fd, fs) nn).1)), .ref gn, .ref gl])), (gp, .inr (4, [.ref gpa, .int (nI mm)])), (gpa, .inl (cI, 150, .inl (va_cpy pp op 0 0 mm))), (gt, .inr (4, [.ref gta, .int (nI nn)])), (gta, .inl (cI, 300, .inl (va_cpy tt ot 0 0 nn))), (ge, .inl (cI, 301, .inl ((px_fnd mm nn (va_cpy pp op 0 0 mm) (va_cpy tt ot 0 0 nn) mode bound (cnt, fe, fd, fs) nn).2.1))), (gd, .inl (cI, 301, .inl ((px_fnd mm nn (va_cpy pp op 0 0 mm) (va_cpy tt ot 0 0 nn) mode bound (cnt, fe, fd, fs) nn).2.2.1))), (gs, .inl (cI, 301, .inl ((px_fnd mm nn (va_cpy pp op 0 0 mm) (va_cpy tt ot 0 0 nn) mode bound (cnt, fe, fd, fs) nn).2.2.2))), (gn, .inl (cI, 151, .inl u.1)), (gl, .inl (cI, 151, .inl u.2)), (ou, .inl (cL, 1, .inr (.inl (vp_updL fo9 0 (nI (px_fnd mm nn (va_cpy pp op 0 0 mm) (va_cpy tt ot 0 0 nn) mode bound (cnt, fe, fd, fs) nn).1).toInt64))))])) (va_A [(x, .inr (5, [.ref xp, .ref xt, .ref so, .ref g, .ref sc, .ref fo, .int sof])), (xp, .inr (4, [.ref xpa, .int (nI mm)])), (xpa, .inl (cI, 150, .inl pp)), (xt, .inr (4, [.ref xta, .int (nI nn)])), (xta, .inl (cI, 300, .inl tt)), (g, .inr (0, [.ref gp, .ref gt, .ref ge, .ref gd, .ref gs, .int (nI cnt), .ref gn, .ref gl])), (gp, .inr (4, [.ref gpa, .int (nI om)])), (gpa, .inl (cI, 150, .inl op)), (gt, .inr (4, [.ref gta, .int (nI on)])), (gta, .inl (cI, 300, .inl ot)), (ge, .inl (cI, 301, .inl fe)), (gd, .inl (cI, 301, .inl fd)), (gs, .inl (cI, 301, .inl fs)), (gn, .inl (cI, 151, .inl fn)), (gl, .inl (cI, 151, .inl fl)), (ou, .inl (cL, 1, .inr (.inl fo9)))] sz)) 0 0 (va_A [(x, .inr (5, [.ref xp, .ref xt, .ref so, .ref g, .ref sc, .ref fo, .int sof])), (xp, .inr (4, [.ref xpa, .int (nI mm)])), (xpa, .inl (cI, 150, .inl pp)), (xt, .inr (4, [.ref xta, .int (nI nn)])), (xta, .inl (cI, 300, .inl tt)), (g, .inr (0, [.ref gp, .ref gt, .ref ge, .ref gd, .ref gs, .int (nI cnt), .ref gn, .ref gl])), (gp, .inr (4, [.ref gpa, .int (nI om)])), (gpa, .inl (cI, 150, .inl op)), (gt, .inr (4, [.ref gta, .int (nI on)])), (gta, .inl (cI, 300, .inl ot)), (ge, .inl (cI, 301, .inl fe)), (gd, .inl (cI, 301, .inl fd)), (gs, .inl (cI, 301, .inl fs)), (gn, .inl (cI, 151, .inl fn)), (gl, .inl (cI, 151, .inl fl)), (ou, .inl (cL, 1, .inr (.inl fo9)))] sz) := by
  refine va_MetW (hh := [(0, 10, 13, 25)]) (cc := cL_search) (maxL := 5) (ret := (some .int)) (by decide) rfl ?_
  intro p e s m args below meth c s₁ B hml hv
  obtain ⟨rfl, hsz, hP, hK, hD0⟩ := hv
  have hx := B.exec
  have hb := B.bytes
  have hr := B.returns
  have hts := atoms_spec (ws := wsL_search) B.pre
  have hown : s.vm.findClass RL = some m.cls := findClass_of_methodNamed B.named
  have hlocks := B.notSynchronized
  subst hsz
  have hD := hD0.self (sz := s.heap.size)
  generalize hAe : va_A [(x, .inr (5, [.ref xp, .ref xt, .ref so, .ref g, .ref sc, .ref fo, .int sof])), (xp, .inr (4, [.ref xpa, .int (nI mm)])), (xpa, .inl (cI, 150, .inl pp)), (xt, .inr (4, [.ref xta, .int (nI nn)])), (xta, .inl (cI, 300, .inl tt)), (g, .inr (0, [.ref gp, .ref gt, .ref ge, .ref gd, .ref gs, .int (nI cnt), .ref gn, .ref gl])), (gp, .inr (4, [.ref gpa, .int (nI om)])), (gpa, .inl (cI, 150, .inl op)), (gt, .inr (4, [.ref gta, .int (nI on)])), (gta, .inl (cI, 300, .inl ot)), (ge, .inl (cI, 301, .inl fe)), (gd, .inl (cI, 301, .inl fd)), (gs, .inl (cI, 301, .inl fs)), (gn, .inl (cI, 151, .inl fn)), (gl, .inl (cI, 151, .inl fl)), (ou, .inl (cL, 1, .inr (.inl fo9)))] s.heap.size = A at hD ⊢
  have hA : ∀ q : Nat, s.heap.size ≤ q → A q := fun q h => by rw [← hAe]; exact Or.inr h
  have hl := lv_entry ([.ref x, .int mode, .int bound, .ref ou]) (n := 5) (Nat.le_of_ble_eq_true rfl)
  rw [lg_entry_eq]
  generalize (lg_sl ([.ref x, .int mode, .int bound, .ref ou]) ++ List.replicate (5 - (lg_sl ([.ref x, .int mode, .int bound, .ref ou])).length) Slot.unset).toArray = ls at hl ⊢
  have hl : lv_has ls 5 [(0, .ref x), (1, .int mode), (2, .int bound), (3, .ref ou)] := hl
  refine hv_start (A := A) (ws := [(x, .inr (5, [.ref xp, .ref xt, .ref so, .ref g, .ref sc, .ref fo, .int sof])), (xp, .inr (4, [.ref xpa, .int (nI mm)])), (xpa, .inl (cI, 150, .inl pp)), (xt, .inr (4, [.ref xta, .int (nI nn)])), (xta, .inl (cI, 300, .inl tt)), (g, .inr (0, [.ref gp, .ref gt, .ref ge, .ref gd, .ref gs, .int (nI cnt), .ref gn, .ref gl])), (gp, .inr (4, [.ref gpa, .int (nI om)])), (gpa, .inl (cI, 150, .inl op)), (gt, .inr (4, [.ref gta, .int (nI on)])), (gta, .inl (cI, 300, .inl ot)), (ge, .inl (cI, 301, .inl fe)), (gd, .inl (cI, 301, .inl fd)), (gs, .inl (cI, 301, .inl fs)), (gn, .inl (cI, 151, .inl fn)), (gl, .inl (cI, 151, .inl fl)), (ou, .inl (cL, 1, .inr (.inl fo9)))]) hP (fun H locs hP hS => ?_)
  refine lv_aload_n hx hb dL_search_0 rfl (lv_at hl 3 rfl) ?_
  refine lv_iconst (v := 0) hx hb dL_search_1 (by decide) ?_
  refine lv_aload_n hx hb dL_search_2 rfl (lv_at hl 0 rfl) ?_
  refine lv_iload_n hx hb dL_search_3 rfl (lv_at hl 1 rfl) ?_
  refine lv_iload_n hx hb dL_search_4 rfl (lv_at hl 2 rfl) ?_
  have fr := fr_x (wc := [(x, .inr (5, [.ref xp, .ref xt, .ref so, .ref g, .ref sc, .ref fo, .int sof])), (xp, .inr (4, [.ref xpa, .int (nI mm)])), (xpa, .inl (cI, 150, .inl pp)), (xt, .inr (4, [.ref xta, .int (nI nn)])), (xta, .inl (cI, 300, .inl tt)), (g, .inr (0, [.ref gp, .ref gt, .ref ge, .ref gd, .ref gs, .int (nI cnt), .ref gn, .ref gl])), (gp, .inr (4, [.ref gpa, .int (nI om)])), (gpa, .inl (cI, 150, .inl op)), (gt, .inr (4, [.ref gta, .int (nI on)])), (gta, .inl (cI, 300, .inl ot)), (ge, .inl (cI, 301, .inl fe)), (gd, .inl (cI, 301, .inl fd)), (gs, .inl (cI, 301, .inl fs)), (gn, .inl (cI, 151, .inl fn)), (gl, .inl (cI, 151, .inl fl))]) (wr := [(ou, .inl (cL, 1, .inr (.inl fo9)))]) hP hD hS hA [0, 1, 2, 3, 4, 5, 6, 7, 8, 9, 10, 11, 12, 13, 14] [15] rfl rfl (by decide) (by decide) (by decide)
  refine cv_i (J := fun u => [(x, .inr (5, [.ref xp, .ref xt, .ref so, .ref g, .ref sc, .ref fo, .int (-1)])), (xp, .inr (4, [.ref xpa, .int (nI mm)])), (xpa, .inl (cI, 150, .inl pp)), (xt, .inr (4, [.ref xta, .int (nI nn)])), (xta, .inl (cI, 300, .inl tt)), (g, .inr (0, [.ref gp, .ref gt, .ref ge, .ref gd, .ref gs, .int (nI ((px_fnd mm nn (va_cpy pp op 0 0 mm) (va_cpy tt ot 0 0 nn) mode bound (cnt, fe, fd, fs) nn).1)), .ref gn, .ref gl])), (gp, .inr (4, [.ref gpa, .int (nI mm)])), (gpa, .inl (cI, 150, .inl (va_cpy pp op 0 0 mm))), (gt, .inr (4, [.ref gta, .int (nI nn)])), (gta, .inl (cI, 300, .inl (va_cpy tt ot 0 0 nn))), (ge, .inl (cI, 301, .inl ((px_fnd mm nn (va_cpy pp op 0 0 mm) (va_cpy tt ot 0 0 nn) mode bound (cnt, fe, fd, fs) nn).2.1))), (gd, .inl (cI, 301, .inl ((px_fnd mm nn (va_cpy pp op 0 0 mm) (va_cpy tt ot 0 0 nn) mode bound (cnt, fe, fd, fs) nn).2.2.1))), (gs, .inl (cI, 301, .inl ((px_fnd mm nn (va_cpy pp op 0 0 mm) (va_cpy tt ot 0 0 nn) mode bound (cnt, fe, fd, fs) nn).2.2.2))), (gn, .inl (cI, 151, .inl u.1)), (gl, .inl (cI, 151, .inl u.2)), (ou, .inl (cL, 1, .inr (.inl fo9)))]) (As := [.int mode, .int bound]) (rest := [.int 0, .ref ou]) (q0 := 0) (ci := 5) ⟨hx, hb, hml, hown, hts⟩ (c_X5_search_y l D cI cJ cL H.size x xp xt so g sc fo sof xpa mm pp xta nn tt gp gpa gt gta ge gd gs gn gl om on cnt op ot fe fd fs fn fl mode bound h0 hmm hnn) (cwV 2 hts gL_search_X5_search rfl rfl rfl (by decide +kernel) ⟨Nat.le_of_ble_eq_true rfl, Nat.le_of_ble_eq_true rfl⟩) hK fr.1 fr.2.1 fr.2.2.1 (fun H1 u hk h1 h2 => ⟨(fr.2.2.2 _ H1 hk h1 h2).1.sub [1, 2, 3, 4, 5, 6, 7, 8, 9, 10, 11, 12, 13, 14, 15, 0] rfl, (fr.2.2.2 _ H1 hk h1 h2).2.sub [1, 2, 3, 4, 5, 6, 7, 8, 9, 10, 11, 12, 13, 14, 15, 0] (by decide) rfl⟩) hS rfl rfl rfl rfl hl.1 rfl (Nat.le_of_ble_eq_true rfl) dL_search_5 ⟨Nat.zero_le _, Nat.zero_le _⟩ (fun r_2 u_1 H locs hw hP hD hS => ?_)
  refine lv_cv (y := nI (px_fnd mm nn (va_cpy pp op 0 0 mm) (va_cpy tt ot 0 0 nn) mode bound (cnt, fe, fd, fs) nn).1) hw ?_
  refine lv_i2l hx hb dL_search_8 rfl ?_
  refine va_lastN hx hb hK hP hD hS 15 2 rfl rfl (x := (nI (px_fnd mm nn (va_cpy pp op 0 0 mm) (va_cpy tt ot 0 0 nn) mode bound (cnt, fe, fd, fs) nn).1).toInt64) (by decide) (by decide) dL_search_9 (fun H locs hP hD hS => ?_)
  have hP : va_P D vwCl [(x, .inr (5, [.ref xp, .ref xt, .ref so, .ref g, .ref sc, .ref fo, .int (-1)])), (xp, .inr (4, [.ref xpa, .int (nI mm)])), (xpa, .inl (cI, 150, .inl pp)), (xt, .inr (4, [.ref xta, .int (nI nn)])), (xta, .inl (cI, 300, .inl tt)), (g, .inr (0, [.ref gp, .ref gt, .ref ge, .ref gd, .ref gs, .int (nI ((px_fnd mm nn (va_cpy pp op 0 0 mm) (va_cpy tt ot 0 0 nn) mode bound (cnt, fe, fd, fs) nn).1)), .ref gn, .ref gl])), (gp, .inr (4, [.ref gpa, .int (nI mm)])), (gpa, .inl (cI, 150, .inl (va_cpy pp op 0 0 mm))), (gt, .inr (4, [.ref gta, .int (nI nn)])), (gta, .inl (cI, 300, .inl (va_cpy tt ot 0 0 nn))), (ge, .inl (cI, 301, .inl ((px_fnd mm nn (va_cpy pp op 0 0 mm) (va_cpy tt ot 0 0 nn) mode bound (cnt, fe, fd, fs) nn).2.1))), (gd, .inl (cI, 301, .inl ((px_fnd mm nn (va_cpy pp op 0 0 mm) (va_cpy tt ot 0 0 nn) mode bound (cnt, fe, fd, fs) nn).2.2.1))), (gs, .inl (cI, 301, .inl ((px_fnd mm nn (va_cpy pp op 0 0 mm) (va_cpy tt ot 0 0 nn) mode bound (cnt, fe, fd, fs) nn).2.2.2))), (gn, .inl (cI, 151, .inl u_1.1)), (gl, .inl (cI, 151, .inl u_1.2)), (ou, .inl (cL, 1, .inr (.inl (vp_updL fo9 0 ((nI (px_fnd mm nn (va_cpy pp op 0 0 mm) (va_cpy tt ot 0 0 nn) mode bound (cnt, fe, fd, fs) nn).1).toInt64)))))] H := hP
  have hD : va_D A [(x, .inr (5, [.ref xp, .ref xt, .ref so, .ref g, .ref sc, .ref fo, .int (-1)])), (xp, .inr (4, [.ref xpa, .int (nI mm)])), (xpa, .inl (cI, 150, .inl pp)), (xt, .inr (4, [.ref xta, .int (nI nn)])), (xta, .inl (cI, 300, .inl tt)), (g, .inr (0, [.ref gp, .ref gt, .ref ge, .ref gd, .ref gs, .int (nI ((px_fnd mm nn (va_cpy pp op 0 0 mm) (va_cpy tt ot 0 0 nn) mode bound (cnt, fe, fd, fs) nn).1)), .ref gn, .ref gl])), (gp, .inr (4, [.ref gpa, .int (nI mm)])), (gpa, .inl (cI, 150, .inl (va_cpy pp op 0 0 mm))), (gt, .inr (4, [.ref gta, .int (nI nn)])), (gta, .inl (cI, 300, .inl (va_cpy tt ot 0 0 nn))), (ge, .inl (cI, 301, .inl ((px_fnd mm nn (va_cpy pp op 0 0 mm) (va_cpy tt ot 0 0 nn) mode bound (cnt, fe, fd, fs) nn).2.1))), (gd, .inl (cI, 301, .inl ((px_fnd mm nn (va_cpy pp op 0 0 mm) (va_cpy tt ot 0 0 nn) mode bound (cnt, fe, fd, fs) nn).2.2.1))), (gs, .inl (cI, 301, .inl ((px_fnd mm nn (va_cpy pp op 0 0 mm) (va_cpy tt ot 0 0 nn) mode bound (cnt, fe, fd, fs) nn).2.2.2))), (gn, .inl (cI, 151, .inl u_1.1)), (gl, .inl (cI, 151, .inl u_1.2)), (ou, .inl (cL, 1, .inr (.inl (vp_updL fo9 0 ((nI (px_fnd mm nn (va_cpy pp op 0 0 mm) (va_cpy tt ot 0 0 nn) mode bound (cnt, fe, fd, fs) nn).1).toInt64)))))] := hD
  refine lv_goto (tgt := 17) hx hb dL_search_10 (by decide) ?_
  refine lv_iconst (v := 0) hx hb dL_search_17 (by decide) ?_
  exact fin_i u_1 hx hb hr hlocks dL_search_18 hK hS hP hD rfl

set_option maxHeartbeats 4000000 in
set_option maxRecDepth 100000 in
theorem c_L_search_no (l : Launch) (htr : l.stackTraces = false) (D : va_G) (cI cJ cL : ClassId) (sz : Nat) (x : Nat) (xp : Nat) (xt : Nat) (so : Nat) (g : Nat) (sc : Nat) (fo : Nat) (sof : Int32) (mode : Int32) (bound : Int32) (ou : Nat) (fo9 : Nat → Int64) (h0 : ¬ (0 ≤ mode ∧ mode ≤ 2 ∧ 0 ≤ bound ∧ bound ≤ 450)) :
    Met l yL_search wsL_search { frames := 7, cells := 1, slots := 6, locals := 112 } (va_Pc [.ref x, .int mode, .int bound, .ref ou] (Wx D [(cI, .int), (cJ, .array .int), (cL, .long)] [(x, .inr (5, [.ref xp, .ref xt, .ref so, .ref g, .ref sc, .ref fo, .int sof])), (ou, .inl (cL, 1, .inr (.inl fo9)))] sz))
      (va_Qi (fun (r : Int32) (_ : Unit) => r = 1) (fun _ => Wa D [(cI, .int), (cJ, .array .int), (cL, .long)] (va_A [(x, .inr (5, [.ref xp, .ref xt, .ref so, .ref g, .ref sc, .ref fo, .int sof])), (ou, .inl (cL, 1, .inr (.inl fo9)))] sz) ([(x, .inr (5, [.ref xp, .ref xt, .ref so, .ref g, .ref sc, .ref fo, .int sof])), (ou, .inl (cL, 1, .inr (.inl fo9)))])) (va_A [(x, .inr (5, [.ref xp, .ref xt, .ref so, .ref g, .ref sc, .ref fo, .int sof])), (ou, .inl (cL, 1, .inr (.inl fo9)))] sz)) 1 6 (va_A [(x, .inr (5, [.ref xp, .ref xt, .ref so, .ref g, .ref sc, .ref fo, .int sof])), (ou, .inl (cL, 1, .inr (.inl fo9)))] sz) := by
  refine va_MetW (hh := [(0, 10, 13, 25)]) (cc := cL_search) (maxL := 5) (ret := (some .int)) (by decide) rfl ?_
  intro p e s m args below meth c s₁ B hml hv
  obtain ⟨rfl, ⟨hsz, hP, hK, hD0⟩, hE⟩ := hv
  have htab := vx_table (x := yL_search) B (atoms_spec (ws := wsL_search) B.pre _ List.mem_cons_self)
  have hx := B.exec
  have hb := B.bytes
  have hr := B.returns
  have hts := atoms_spec (ws := wsL_search) B.pre
  have hown : s.vm.findClass RL = some m.cls := findClass_of_methodNamed B.named
  have hlocks := B.notSynchronized
  subst hsz
  have hD := hD0.self (sz := s.heap.size)
  generalize hAe : va_A [(x, .inr (5, [.ref xp, .ref xt, .ref so, .ref g, .ref sc, .ref fo, .int sof])), (ou, .inl (cL, 1, .inr (.inl fo9)))] s.heap.size = A at hD hE ⊢
  have hA : ∀ q : Nat, s.heap.size ≤ q → A q := fun q h => by rw [← hAe]; exact Or.inr h
  have hl := lv_entry ([.ref x, .int mode, .int bound, .ref ou]) (n := 5) (Nat.le_of_ble_eq_true rfl)
  rw [lg_entry_eq]
  generalize (lg_sl ([.ref x, .int mode, .int bound, .ref ou]) ++ List.replicate (5 - (lg_sl ([.ref x, .int mode, .int bound, .ref ou])).length) Slot.unset).toArray = ls at hl ⊢
  have hl : lv_has ls 5 [(0, .ref x), (1, .int mode), (2, .int bound), (3, .ref ou)] := hl
  refine hv_start (A := A) (ws := [(x, .inr (5, [.ref xp, .ref xt, .ref so, .ref g, .ref sc, .ref fo, .int sof])), (ou, .inl (cL, 1, .inr (.inl fo9)))]) hP (fun H locs hP hS => ?_)
  have w_0 := hts (.classLink RL 25 iae) (by decide +kernel)
  refine lv_aload_n hx hb dL_search_0 rfl (lv_at hl 3 rfl) ?_
  refine lv_iconst (v := 0) hx hb dL_search_1 (by decide) ?_
  refine lv_aload_n hx hb dL_search_2 rfl (lv_at hl 0 rfl) ?_
  refine lv_iload_n hx hb dL_search_3 rfl (lv_at hl 1 rfl) ?_
  refine lv_iload_n hx hb dL_search_4 rfl (lv_at hl 2 rfl) ?_
  have fr := fr_x (wc := [(x, .inr (5, [.ref xp, .ref xt, .ref so, .ref g, .ref sc, .ref fo, .int sof]))]) (wr := [(ou, .inl (cL, 1, .inr (.inl fo9)))]) hP hD hS hA [0] [1] rfl rfl (by decide) (by decide) (by decide)
  refine cx_v (E0 := iae) (J := fun _ => [(x, .inr (5, [.ref xp, .ref xt, .ref so, .ref g, .ref sc, .ref fo, .int sof])), (ou, .inl (cL, 1, .inr (.inl fo9)))]) (As := [.int mode, .int bound]) (rest := [.int 0, .ref ou]) (q0 := 0) (ci := 5) ⟨hx, hb, hml, hown, hts⟩ (c_X5_search_no l htr D cI cJ cL H.size x xp xt so g sc fo sof mode bound h0) (cwV 2 hts gL_search_X5_search rfl rfl rfl (by decide +kernel) ⟨Nat.le_of_ble_eq_true rfl, Nat.le_of_ble_eq_true rfl⟩) hK fr.1 fr.2.1 fr.2.2.1 (fun H1 u hk h1 h2 => ⟨(fr.2.2.2 _ H1 hk h1 h2).1.sub [1, 0] rfl, (fr.2.2.2 _ H1 hk h1 h2).2.sub [1, 0] (by decide) rfl⟩) hS hE rfl rfl rfl rfl hl.1 rfl (Nat.le_of_ble_eq_true rfl) dL_search_5 ⟨Nat.le_of_ble_eq_true rfl, Nat.le_of_ble_eq_true rfl⟩ (fun ce q9 u9 H locs hw hP hD hS hce hcv hcl => ?_)
  refine vx_catch (own := RL) (name := iae) hown [] ⟨0, 10, 13, 25⟩ [] htab (fun z hz => absurd hz List.not_mem_nil) (by decide) (by decide) w_0 (xK.at hE.2.2.2.2.2 (.castable iae iae) (by decide +kernel)) hce hcv hcl ?_
  refine W.eq (g2 := F0 m 13 ls [.ref q9]) rfl ?_
  refine lv_astore (lv' := [(4, .ref q9), (0, .ref x), (1, .int mode), (2, .int bound), (3, .ref ou)]) hx hb dL_search_13 hl (by decide) rfl (fun ls hl => ?_)
  refine lv_iconst (v := 1) hx hb dL_search_15 (by decide) ?_
  refine W.widen (k := 1) (n := 6) (by decide) (by decide) ?_
  exact fin_i () hx hb hr hlocks dL_search_16 hK hS hP hD rfl

set_option maxHeartbeats 4000000 in
set_option maxRecDepth 100000 in
theorem c_L_found_0 (l : Launch) (D : va_G) (cI cJ cL : ClassId) (sz : Nat) (x : Nat) (xp : Nat) (xt : Nat) (so : Nat) (g : Nat) (sc : Nat) (fo : Nat) (sof : Int32) (gp : Nat) (gpa : Nat) (gt : Nat) (gta : Nat) (ge : Nat) (gd : Nat) (gs : Nat) (gn : Nat) (gl : Nat) (om : Nat) (on : Nat) (cnt : Nat) (op : Nat → Int32) (ot : Nat → Int32) (fe : Nat → Int32) (fd : Nat → Int32) (fs : Nat → Int32) (fn : Nat → Int32) (fl : Nat → Int32) (i : Nat) (what : Int32) (ou : Nat) (fo9 : Nat → Int64) (hi : i < cnt) (hc : cnt ≤ 301) (h0 : what = 0) :
    Met l yL_found wsL_found { frames := 2, cells := 0, slots := 0, locals := 43 } (va_Pc [.ref x, .int (nI i), .int what, .ref ou] (Wd D [(cI, .int), (cJ, .array .int), (cL, .long)] [(x, .inr (5, [.ref xp, .ref xt, .ref so, .ref g, .ref sc, .ref fo, .int sof])), (g, .inr (0, [.ref gp, .ref gt, .ref ge, .ref gd, .ref gs, .int (nI cnt), .ref gn, .ref gl])), (gp, .inr (4, [.ref gpa, .int (nI om)])), (gpa, .inl (cI, 150, .inl op)), (gt, .inr (4, [.ref gta, .int (nI on)])), (gta, .inl (cI, 300, .inl ot)), (ge, .inl (cI, 301, .inl fe)), (gd, .inl (cI, 301, .inl fd)), (gs, .inl (cI, 301, .inl fs)), (gn, .inl (cI, 151, .inl fn)), (gl, .inl (cI, 151, .inl fl)), (ou, .inl (cL, 1, .inr (.inl fo9)))] sz))
      (va_Qi (fun (r : Int32) (_ : Unit) => r = 0) (fun _ => Wa D [(cI, .int), (cJ, .array .int), (cL, .long)] (va_A [(x, .inr (5, [.ref xp, .ref xt, .ref so, .ref g, .ref sc, .ref fo, .int sof])), (g, .inr (0, [.ref gp, .ref gt, .ref ge, .ref gd, .ref gs, .int (nI cnt), .ref gn, .ref gl])), (gp, .inr (4, [.ref gpa, .int (nI om)])), (gpa, .inl (cI, 150, .inl op)), (gt, .inr (4, [.ref gta, .int (nI on)])), (gta, .inl (cI, 300, .inl ot)), (ge, .inl (cI, 301, .inl fe)), (gd, .inl (cI, 301, .inl fd)), (gs, .inl (cI, 301, .inl fs)), (gn, .inl (cI, 151, .inl fn)), (gl, .inl (cI, 151, .inl fl)), (ou, .inl (cL, 1, .inr (.inl fo9)))] sz) ([(x, .inr (5, [.ref xp, .ref xt, .ref so, .ref g, .ref sc, .ref fo, .int sof])), (g, .inr (0, [.ref gp, .ref gt, .ref ge, .ref gd, .ref gs, .int (nI cnt), .ref gn, .ref gl])), (gp, .inr (4, [.ref gpa, .int (nI om)])), (gpa, .inl (cI, 150, .inl op)), (gt, .inr (4, [.ref gta, .int (nI on)])), (gta, .inl (cI, 300, .inl ot)), (ge, .inl (cI, 301, .inl fe)), (gd, .inl (cI, 301, .inl fd)), (gs, .inl (cI, 301, .inl fs)), (gn, .inl (cI, 151, .inl fn)), (gl, .inl (cI, 151, .inl fl)), (ou, .inl (cL, 1, .inr (.inl (vp_updL fo9 0 (fe i).toInt64))))])) (va_A [(x, .inr (5, [.ref xp, .ref xt, .ref so, .ref g, .ref sc, .ref fo, .int sof])), (g, .inr (0, [.ref gp, .ref gt, .ref ge, .ref gd, .ref gs, .int (nI cnt), .ref gn, .ref gl])), (gp, .inr (4, [.ref gpa, .int (nI om)])), (gpa, .inl (cI, 150, .inl op)), (gt, .inr (4, [.ref gta, .int (nI on)])), (gta, .inl (cI, 300, .inl ot)), (ge, .inl (cI, 301, .inl fe)), (gd, .inl (cI, 301, .inl fd)), (gs, .inl (cI, 301, .inl fs)), (gn, .inl (cI, 151, .inl fn)), (gl, .inl (cI, 151, .inl fl)), (ou, .inl (cL, 1, .inr (.inl fo9)))] sz)) 0 0 (va_A [(x, .inr (5, [.ref xp, .ref xt, .ref so, .ref g, .ref sc, .ref fo, .int sof])), (g, .inr (0, [.ref gp, .ref gt, .ref ge, .ref gd, .ref gs, .int (nI cnt), .ref gn, .ref gl])), (gp, .inr (4, [.ref gpa, .int (nI om)])), (gpa, .inl (cI, 150, .inl op)), (gt, .inr (4, [.ref gta, .int (nI on)])), (gta, .inl (cI, 300, .inl ot)), (ge, .inl (cI, 301, .inl fe)), (gd, .inl (cI, 301, .inl fd)), (gs, .inl (cI, 301, .inl fs)), (gn, .inl (cI, 151, .inl fn)), (gl, .inl (cI, 151, .inl fl)), (ou, .inl (cL, 1, .inr (.inl fo9)))] sz) := by
  refine va_MetW (hh := [(0, 10, 13, 13), (0, 10, 17, 25)]) (cc := cL_found) (maxL := 5) (ret := (some .int)) (by decide) rfl ?_
  intro p e s m args below meth c s₁ B hml hv
  obtain ⟨rfl, hsz, hP, hK, hD0⟩ := hv
  have hx := B.exec
  have hb := B.bytes
  have hr := B.returns
  have hts := atoms_spec (ws := wsL_found) B.pre
  have hown : s.vm.findClass RL = some m.cls := findClass_of_methodNamed B.named
  have hlocks := B.notSynchronized
  subst hsz
  have hD := hD0.self (sz := s.heap.size)
  generalize hAe : va_A [(x, .inr (5, [.ref xp, .ref xt, .ref so, .ref g, .ref sc, .ref fo, .int sof])), (g, .inr (0, [.ref gp, .ref gt, .ref ge, .ref gd, .ref gs, .int (nI cnt), .ref gn, .ref gl])), (gp, .inr (4, [.ref gpa, .int (nI om)])), (gpa, .inl (cI, 150, .inl op)), (gt, .inr (4, [.ref gta, .int (nI on)])), (gta, .inl (cI, 300, .inl ot)), (ge, .inl (cI, 301, .inl fe)), (gd, .inl (cI, 301, .inl fd)), (gs, .inl (cI, 301, .inl fs)), (gn, .inl (cI, 151, .inl fn)), (gl, .inl (cI, 151, .inl fl)), (ou, .inl (cL, 1, .inr (.inl fo9)))] s.heap.size = A at hD ⊢
  have hA : ∀ q : Nat, s.heap.size ≤ q → A q := fun q h => by rw [← hAe]; exact Or.inr h
  have hl := lv_entry ([.ref x, .int (nI i), .int what, .ref ou]) (n := 5) (Nat.le_of_ble_eq_true rfl)
  rw [lg_entry_eq]
  generalize (lg_sl ([.ref x, .int (nI i), .int what, .ref ou]) ++ List.replicate (5 - (lg_sl ([.ref x, .int (nI i), .int what, .ref ou])).length) Slot.unset).toArray = ls at hl ⊢
  have hl : lv_has ls 5 [(0, .ref x), (1, .int (nI i)), (2, .int what), (3, .ref ou)] := hl
  refine hv_start (A := A) (ws := [(x, .inr (5, [.ref xp, .ref xt, .ref so, .ref g, .ref sc, .ref fo, .int sof])), (g, .inr (0, [.ref gp, .ref gt, .ref ge, .ref gd, .ref gs, .int (nI cnt), .ref gn, .ref gl])), (gp, .inr (4, [.ref gpa, .int (nI om)])), (gpa, .inl (cI, 150, .inl op)), (gt, .inr (4, [.ref gta, .int (nI on)])), (gta, .inl (cI, 300, .inl ot)), (ge, .inl (cI, 301, .inl fe)), (gd, .inl (cI, 301, .inl fd)), (gs, .inl (cI, 301, .inl fs)), (gn, .inl (cI, 151, .inl fn)), (gl, .inl (cI, 151, .inl fl)), (ou, .inl (cL, 1, .inr (.inl fo9)))]) hP (fun H locs hP hS => ?_)
  refine lv_aload_n hx hb dL_found_0 rfl (lv_at hl 3 rfl) ?_
  refine lv_iconst (v := 0) hx hb dL_found_1 (by decide) ?_
  refine lv_aload_n hx hb dL_found_2 rfl (lv_at hl 0 rfl) ?_
  refine lv_iload_n hx hb dL_found_3 rfl (lv_at hl 1 rfl) ?_
  refine lv_iload_n hx hb dL_found_4 rfl (lv_at hl 2 rfl) ?_
  have fr := fr_x (wc := [(x, .inr (5, [.ref xp, .ref xt, .ref so, .ref g, .ref sc, .ref fo, .int sof])), (g, .inr (0, [.ref gp, .ref gt, .ref ge, .ref gd, .ref gs, .int (nI cnt), .ref gn, .ref gl])), (gp, .inr (4, [.ref gpa, .int (nI om)])), (gpa, .inl (cI, 150, .inl op)), (gt, .inr (4, [.ref gta, .int (nI on)])), (gta, .inl (cI, 300, .inl ot)), (ge, .inl (cI, 301, .inl fe)), (gd, .inl (cI, 301, .inl fd)), (gs, .inl (cI, 301, .inl fs)), (gn, .inl (cI, 151, .inl fn)), (gl, .inl (cI, 151, .inl fl))]) (wr := [(ou, .inl (cL, 1, .inr (.inl fo9)))]) hP hD hS hA [0, 1, 2, 3, 4, 5, 6, 7, 8, 9, 10] [11] rfl rfl (by decide) (by decide) (by decide)
  refine cv_i (J := fun _ => [(x, .inr (5, [.ref xp, .ref xt, .ref so, .ref g, .ref sc, .ref fo, .int sof])), (g, .inr (0, [.ref gp, .ref gt, .ref ge, .ref gd, .ref gs, .int (nI cnt), .ref gn, .ref gl])), (gp, .inr (4, [.ref gpa, .int (nI om)])), (gpa, .inl (cI, 150, .inl op)), (gt, .inr (4, [.ref gta, .int (nI on)])), (gta, .inl (cI, 300, .inl ot)), (ge, .inl (cI, 301, .inl fe)), (gd, .inl (cI, 301, .inl fd)), (gs, .inl (cI, 301, .inl fs)), (gn, .inl (cI, 151, .inl fn)), (gl, .inl (cI, 151, .inl fl)), (ou, .inl (cL, 1, .inr (.inl fo9)))]) (As := [.int (nI i), .int what]) (rest := [.int 0, .ref ou]) (q0 := 0) (ci := 5) ⟨hx, hb, hml, hown, hts⟩ (c_X5_found_0 l D cI cJ cL H.size x xp xt so g sc fo sof gp gpa gt gta ge gd gs gn gl om on cnt op ot fe fd fs fn fl i what hi hc h0) (cwV 2 hts gL_found_X5_found rfl rfl rfl (by decide +kernel) ⟨Nat.le_of_ble_eq_true rfl, Nat.le_of_ble_eq_true rfl⟩) hK fr.1 fr.2.1 fr.2.2.1 (fun H1 u hk h1 h2 => ⟨(fr.2.2.2 _ H1 hk h1 h2).1.sub [1, 2, 3, 4, 5, 6, 7, 8, 9, 10, 11, 0] rfl, (fr.2.2.2 _ H1 hk h1 h2).2.sub [1, 2, 3, 4, 5, 6, 7, 8, 9, 10, 11, 0] (by decide) rfl⟩) hS rfl rfl rfl rfl hl.1 rfl (Nat.le_of_ble_eq_true rfl) dL_found_5 ⟨Nat.zero_le _, Nat.zero_le _⟩ (fun r_2 u_1 H locs hw hP hD hS => ?_)
  refine lv_cv (y := fe i) hw ?_
  refine lv_i2l hx hb dL_found_8 rfl ?_
  refine va_lastN hx hb hK hP hD hS 11 2 rfl rfl (x := (fe i).toInt64) (by decide) (by decide) dL_found_9 (fun H locs hP hD hS => ?_)
  have hP : va_P D vwCl [(x, .inr (5, [.ref xp, .ref xt, .ref so, .ref g, .ref sc, .ref fo, .int sof])), (g, .inr (0, [.ref gp, .ref gt, .ref ge, .ref gd, .ref gs, .int (nI cnt), .ref gn, .ref gl])), (gp, .inr (4, [.ref gpa, .int (nI om)])), (gpa, .inl (cI, 150, .inl op)), (gt, .inr (4, [.ref gta, .int (nI on)])), (gta, .inl (cI, 300, .inl ot)), (ge, .inl (cI, 301, .inl fe)), (gd, .inl (cI, 301, .inl fd)), (gs, .inl (cI, 301, .inl fs)), (gn, .inl (cI, 151, .inl fn)), (gl, .inl (cI, 151, .inl fl)), (ou, .inl (cL, 1, .inr (.inl (vp_updL fo9 0 ((fe i).toInt64)))))] H := hP
  have hD : va_D A [(x, .inr (5, [.ref xp, .ref xt, .ref so, .ref g, .ref sc, .ref fo, .int sof])), (g, .inr (0, [.ref gp, .ref gt, .ref ge, .ref gd, .ref gs, .int (nI cnt), .ref gn, .ref gl])), (gp, .inr (4, [.ref gpa, .int (nI om)])), (gpa, .inl (cI, 150, .inl op)), (gt, .inr (4, [.ref gta, .int (nI on)])), (gta, .inl (cI, 300, .inl ot)), (ge, .inl (cI, 301, .inl fe)), (gd, .inl (cI, 301, .inl fd)), (gs, .inl (cI, 301, .inl fs)), (gn, .inl (cI, 151, .inl fn)), (gl, .inl (cI, 151, .inl fl)), (ou, .inl (cL, 1, .inr (.inl (vp_updL fo9 0 ((fe i).toInt64)))))] := hD
  refine lv_goto (tgt := 21) hx hb dL_found_10 (by decide) ?_
  refine lv_iconst (v := 0) hx hb dL_found_21 (by decide) ?_
  exact fin_i () hx hb hr hlocks dL_found_22 hK hS hP hD rfl

set_option maxHeartbeats 4000000 in
set_option maxRecDepth 100000 in
theorem c_L_found_1 (l : Launch) (D : va_G) (cI cJ cL : ClassId) (sz : Nat) (x : Nat) (xp : Nat) (xt : Nat) (so : Nat) (g : Nat) (sc : Nat) (fo : Nat) (sof : Int32) (gp : Nat) (gpa : Nat) (gt : Nat) (gta : Nat) (ge : Nat) (gd : Nat) (gs : Nat) (gn : Nat) (gl : Nat) (om : Nat) (on : Nat) (cnt : Nat) (op : Nat → Int32) (ot : Nat → Int32) (fe : Nat → Int32) (fd : Nat → Int32) (fs : Nat → Int32) (fn : Nat → Int32) (fl : Nat → Int32) (i : Nat) (what : Int32) (ou : Nat) (fo9 : Nat → Int64) (hi : i < cnt) (hc : cnt ≤ 301) (h0 : what = 1) :
    Met l yL_found wsL_found { frames := 2, cells := 0, slots := 0, locals := 43 } (va_Pc [.ref x, .int (nI i), .int what, .ref ou] (Wd D [(cI, .int), (cJ, .array .int), (cL, .long)] [(x, .inr (5, [.ref xp, .ref xt, .ref so, .ref g, .ref sc, .ref fo, .int sof])), (g, .inr (0, [.ref gp, .ref gt, .ref ge, .ref gd, .ref gs, .int (nI cnt), .ref gn, .ref gl])), (gp, .inr (4, [.ref gpa, .int (nI om)])), (gpa, .inl (cI, 150, .inl op)), (gt, .inr (4, [.ref gta, .int (nI on)])), (gta, .inl (cI, 300, .inl ot)), (ge, .inl (cI, 301, .inl fe)), (gd, .inl (cI, 301, .inl fd)), (gs, .inl (cI, 301, .inl fs)), (gn, .inl (cI, 151, .inl fn)), (gl, .inl (cI, 151, .inl fl)), (ou, .inl (cL, 1, .inr (.inl fo9)))] sz))
      (va_Qi (fun (r : Int32) (_ : Unit) => r = 0) (fun _ => Wa D [(cI, .int), (cJ, .array .int), (cL, .long)] (va_A [(x, .inr (5, [.ref xp, .ref xt, .ref so, .ref g, .ref sc, .ref fo, .int sof])), (g, .inr (0, [.ref gp, .ref gt, .ref ge, .ref gd, .ref gs, .int (nI cnt), .ref gn, .ref gl])), (gp, .inr (4, [.ref gpa, .int (nI om)])), (gpa, .inl (cI, 150, .inl op)), (gt, .inr (4, [.ref gta, .int (nI on)])), (gta, .inl (cI, 300, .inl ot)), (ge, .inl (cI, 301, .inl fe)), (gd, .inl (cI, 301, .inl fd)), (gs, .inl (cI, 301, .inl fs)), (gn, .inl (cI, 151, .inl fn)), (gl, .inl (cI, 151, .inl fl)), (ou, .inl (cL, 1, .inr (.inl fo9)))] sz) ([(x, .inr (5, [.ref xp, .ref xt, .ref so, .ref g, .ref sc, .ref fo, .int sof])), (g, .inr (0, [.ref gp, .ref gt, .ref ge, .ref gd, .ref gs, .int (nI cnt), .ref gn, .ref gl])), (gp, .inr (4, [.ref gpa, .int (nI om)])), (gpa, .inl (cI, 150, .inl op)), (gt, .inr (4, [.ref gta, .int (nI on)])), (gta, .inl (cI, 300, .inl ot)), (ge, .inl (cI, 301, .inl fe)), (gd, .inl (cI, 301, .inl fd)), (gs, .inl (cI, 301, .inl fs)), (gn, .inl (cI, 151, .inl fn)), (gl, .inl (cI, 151, .inl fl)), (ou, .inl (cL, 1, .inr (.inl (vp_updL fo9 0 (fd i).toInt64))))])) (va_A [(x, .inr (5, [.ref xp, .ref xt, .ref so, .ref g, .ref sc, .ref fo, .int sof])), (g, .inr (0, [.ref gp, .ref gt, .ref ge, .ref gd, .ref gs, .int (nI cnt), .ref gn, .ref gl])), (gp, .inr (4, [.ref gpa, .int (nI om)])), (gpa, .inl (cI, 150, .inl op)), (gt, .inr (4, [.ref gta, .int (nI on)])), (gta, .inl (cI, 300, .inl ot)), (ge, .inl (cI, 301, .inl fe)), (gd, .inl (cI, 301, .inl fd)), (gs, .inl (cI, 301, .inl fs)), (gn, .inl (cI, 151, .inl fn)), (gl, .inl (cI, 151, .inl fl)), (ou, .inl (cL, 1, .inr (.inl fo9)))] sz)) 0 0 (va_A [(x, .inr (5, [.ref xp, .ref xt, .ref so, .ref g, .ref sc, .ref fo, .int sof])), (g, .inr (0, [.ref gp, .ref gt, .ref ge, .ref gd, .ref gs, .int (nI cnt), .ref gn, .ref gl])), (gp, .inr (4, [.ref gpa, .int (nI om)])), (gpa, .inl (cI, 150, .inl op)), (gt, .inr (4, [.ref gta, .int (nI on)])), (gta, .inl (cI, 300, .inl ot)), (ge, .inl (cI, 301, .inl fe)), (gd, .inl (cI, 301, .inl fd)), (gs, .inl (cI, 301, .inl fs)), (gn, .inl (cI, 151, .inl fn)), (gl, .inl (cI, 151, .inl fl)), (ou, .inl (cL, 1, .inr (.inl fo9)))] sz) := by
  refine va_MetW (hh := [(0, 10, 13, 13), (0, 10, 17, 25)]) (cc := cL_found) (maxL := 5) (ret := (some .int)) (by decide) rfl ?_
  intro p e s m args below meth c s₁ B hml hv
  obtain ⟨rfl, hsz, hP, hK, hD0⟩ := hv
  have hx := B.exec
  have hb := B.bytes
  have hr := B.returns
  have hts := atoms_spec (ws := wsL_found) B.pre
  have hown : s.vm.findClass RL = some m.cls := findClass_of_methodNamed B.named
  have hlocks := B.notSynchronized
  subst hsz
  have hD := hD0.self (sz := s.heap.size)
  generalize hAe : va_A [(x, .inr (5, [.ref xp, .ref xt, .ref so, .ref g, .ref sc, .ref fo, .int sof])), (g, .inr (0, [.ref gp, .ref gt, .ref ge, .ref gd, .ref gs, .int (nI cnt), .ref gn, .ref gl])), (gp, .inr (4, [.ref gpa, .int (nI om)])), (gpa, .inl (cI, 150, .inl op)), (gt, .inr (4, [.ref gta, .int (nI on)])), (gta, .inl (cI, 300, .inl ot)), (ge, .inl (cI, 301, .inl fe)), (gd, .inl (cI, 301, .inl fd)), (gs, .inl (cI, 301, .inl fs)), (gn, .inl (cI, 151, .inl fn)), (gl, .inl (cI, 151, .inl fl)), (ou, .inl (cL, 1, .inr (.inl fo9)))] s.heap.size = A at hD ⊢
  have hA : ∀ q : Nat, s.heap.size ≤ q → A q := fun q h => by rw [← hAe]; exact Or.inr h
  have hl := lv_entry ([.ref x, .int (nI i), .int what, .ref ou]) (n := 5) (Nat.le_of_ble_eq_true rfl)
  rw [lg_entry_eq]
  generalize (lg_sl ([.ref x, .int (nI i), .int what, .ref ou]) ++ List.replicate (5 - (lg_sl ([.ref x, .int (nI i), .int what, .ref ou])).length) Slot.unset).toArray = ls at hl ⊢
  have hl : lv_has ls 5 [(0, .ref x), (1, .int (nI i)), (2, .int what), (3, .ref ou)] := hl
  refine hv_start (A := A) (ws := [(x, .inr (5, [.ref xp, .ref xt, .ref so, .ref g, .ref sc, .ref fo, .int sof])), (g, .inr (0, [.ref gp, .ref gt, .ref ge, .ref gd, .ref gs, .int (nI cnt), .ref gn, .ref gl])), (gp, .inr (4, [.ref gpa, .int (nI om)])), (gpa, .inl (cI, 150, .inl op)), (gt, .inr (4, [.ref gta, .int (nI on)])), (gta, .inl (cI, 300, .inl ot)), (ge, .inl (cI, 301, .inl fe)), (gd, .inl (cI, 301, .inl fd)), (gs, .inl (cI, 301, .inl fs)), (gn, .inl (cI, 151, .inl fn)), (gl, .inl (cI, 151, .inl fl)), (ou, .inl (cL, 1, .inr (.inl fo9)))]) hP (fun H locs hP hS => ?_)
  refine lv_aload_n hx hb dL_found_0 rfl (lv_at hl 3 rfl) ?_
  refine lv_iconst (v := 0) hx hb dL_found_1 (by decide) ?_
  refine lv_aload_n hx hb dL_found_2 rfl (lv_at hl 0 rfl) ?_
  refine lv_iload_n hx hb dL_found_3 rfl (lv_at hl 1 rfl) ?_
  refine lv_iload_n hx hb dL_found_4 rfl (lv_at hl 2 rfl) ?_
  have fr := fr_x (wc := [(x, .inr (5, [.ref xp, .ref xt, .ref so, .ref g, .ref sc, .ref fo, .int sof])), (g, .inr (0, [.ref gp, .ref gt, .ref ge, .ref gd, .ref gs, .int (nI cnt), .ref gn, .ref gl])), (gp, .inr (4, [.ref gpa, .int (nI om)])), (gpa, .inl (cI, 150, .inl op)), (gt, .inr (4, [.ref gta, .int (nI on)])), (gta, .inl (cI, 300, .inl ot)), (ge, .inl (cI, 301, .inl fe)), (gd, .inl (cI, 301, .inl fd)), (gs, .inl (cI, 301, .inl fs)), (gn, .inl (cI, 151, .inl fn)), (gl, .inl (cI, 151, .inl fl))]) (wr := [(ou, .inl (cL, 1, .inr (.inl fo9)))]) hP hD hS hA [0, 1, 2, 3, 4, 5, 6, 7, 8, 9, 10] [11] rfl rfl (by decide) (by decide) (by decide)
  refine cv_i (J := fun _ => [(x, .inr (5, [.ref xp, .ref xt, .ref so, .ref g, .ref sc, .ref fo, .int sof])), (g, .inr (0, [.ref gp, .ref gt, .ref ge, .ref gd, .ref gs, .int (nI cnt), .ref gn, .ref gl])), (gp, .inr (4, [.ref gpa, .int (nI om)])), (gpa, .inl (cI, 150, .inl op)), (gt, .inr (4, [.ref gta, .int (nI on)])), (gta, .inl (cI, 300, .inl ot)), (ge, .inl (cI, 301, .inl fe)), (gd, .inl (cI, 301, .inl fd)), (gs, .inl (cI, 301, .inl fs)), (gn, .inl (cI, 151, .inl fn)), (gl, .inl (cI, 151, .inl fl)), (ou, .inl (cL, 1, .inr (.inl fo9)))]) (As := [.int (nI i), .int what]) (rest := [.int 0, .ref ou]) (q0 := 0) (ci := 5) ⟨hx, hb, hml, hown, hts⟩ (c_X5_found_1 l D cI cJ cL H.size x xp xt so g sc fo sof gp gpa gt gta ge gd gs gn gl om on cnt op ot fe fd fs fn fl i what hi hc h0) (cwV 2 hts gL_found_X5_found rfl rfl rfl (by decide +kernel) ⟨Nat.le_of_ble_eq_true rfl, Nat.le_of_ble_eq_true rfl⟩) hK fr.1 fr.2.1 fr.2.2.1 (fun H1 u hk h1 h2 => ⟨(fr.2.2.2 _ H1 hk h1 h2).1.sub [1, 2, 3, 4, 5, 6, 7, 8, 9, 10, 11, 0] rfl, (fr.2.2.2 _ H1 hk h1 h2).2.sub [1, 2, 3, 4, 5, 6, 7, 8, 9, 10, 11, 0] (by decide) rfl⟩) hS rfl rfl rfl rfl hl.1 rfl (Nat.le_of_ble_eq_true rfl) dL_found_5 ⟨Nat.zero_le _, Nat.zero_le _⟩ (fun r_2 u_1 H locs hw hP hD hS => ?_)
  refine lv_cv (y := fd i) hw ?_
  refine lv_i2l hx hb dL_found_8 rfl ?_
  refine va_lastN hx hb hK hP hD hS 11 2 rfl rfl (x := (fd i).toInt64) (by decide) (by decide) dL_found_9 (fun H locs hP hD hS => ?_)
  have hP : va_P D vwCl [(x, .inr (5, [.ref xp, .ref xt, .ref so, .ref g, .ref sc, .ref fo, .int sof])), (g, .inr (0, [.ref gp, .ref gt, .ref ge, .ref gd, .ref gs, .int (nI cnt), .ref gn, .ref gl])), (gp, .inr (4, [.ref gpa, .int (nI om)])), (gpa, .inl (cI, 150, .inl op)), (gt, .inr (4, [.ref gta, .int (nI on)])), (gta, .inl (cI, 300, .inl ot)), (ge, .inl (cI, 301, .inl fe)), (gd, .inl (cI, 301, .inl fd)), (gs, .inl (cI, 301, .inl fs)), (gn, .inl (cI, 151, .inl fn)), (gl, .inl (cI, 151, .inl fl)), (ou, .inl (cL, 1, .inr (.inl (vp_updL fo9 0 ((fd i).toInt64)))))] H := hP
  have hD : va_D A [(x, .inr (5, [.ref xp, .ref xt, .ref so, .ref g, .ref sc, .ref fo, .int sof])), (g, .inr (0, [.ref gp, .ref gt, .ref ge, .ref gd, .ref gs, .int (nI cnt), .ref gn, .ref gl])), (gp, .inr (4, [.ref gpa, .int (nI om)])), (gpa, .inl (cI, 150, .inl op)), (gt, .inr (4, [.ref gta, .int (nI on)])), (gta, .inl (cI, 300, .inl ot)), (ge, .inl (cI, 301, .inl fe)), (gd, .inl (cI, 301, .inl fd)), (gs, .inl (cI, 301, .inl fs)), (gn, .inl (cI, 151, .inl fn)), (gl, .inl (cI, 151, .inl fl)), (ou, .inl (cL, 1, .inr (.inl (vp_updL fo9 0 ((fd i).toInt64)))))] := hD
  refine lv_goto (tgt := 21) hx hb dL_found_10 (by decide) ?_
  refine lv_iconst (v := 0) hx hb dL_found_21 (by decide) ?_
  exact fin_i () hx hb hr hlocks dL_found_22 hK hS hP hD rfl

set_option maxHeartbeats 4000000 in
set_option maxRecDepth 100000 in
theorem c_L_found_2 (l : Launch) (D : va_G) (cI cJ cL : ClassId) (sz : Nat) (x : Nat) (xp : Nat) (xt : Nat) (so : Nat) (g : Nat) (sc : Nat) (fo : Nat) (sof : Int32) (gp : Nat) (gpa : Nat) (gt : Nat) (gta : Nat) (ge : Nat) (gd : Nat) (gs : Nat) (gn : Nat) (gl : Nat) (om : Nat) (on : Nat) (cnt : Nat) (op : Nat → Int32) (ot : Nat → Int32) (fe : Nat → Int32) (fd : Nat → Int32) (fs : Nat → Int32) (fn : Nat → Int32) (fl : Nat → Int32) (i : Nat) (what : Int32) (ou : Nat) (fo9 : Nat → Int64) (hi : i < cnt) (hc : cnt ≤ 301) (h0 : what = 2) :
    Met l yL_found wsL_found { frames := 2, cells := 0, slots := 0, locals := 43 } (va_Pc [.ref x, .int (nI i), .int what, .ref ou] (Wd D [(cI, .int), (cJ, .array .int), (cL, .long)] [(x, .inr (5, [.ref xp, .ref xt, .ref so, .ref g, .ref sc, .ref fo, .int sof])), (g, .inr (0, [.ref gp, .ref gt, .ref ge, .ref gd, .ref gs, .int (nI cnt), .ref gn, .ref gl])), (gp, .inr (4, [.ref gpa, .int (nI om)])), (gpa, .inl (cI, 150, .inl op)), (gt, .inr (4, [.ref gta, .int (nI on)])), (gta, .inl (cI, 300, .inl ot)), (ge, .inl (cI, 301, .inl fe)), (gd, .inl (cI, 301, .inl fd)), (gs, .inl (cI, 301, .inl fs)), (gn, .inl (cI, 151, .inl fn)), (gl, .inl (cI, 151, .inl fl)), (ou, .inl (cL, 1, .inr (.inl fo9)))] sz))
      (va_Qi (fun (r : Int32) (_ : Unit) => r = 0) (fun _ => Wa D [(cI, .int), (cJ, .array .int), (cL, .long)] (va_A [(x, .inr (5, [.ref xp, .ref xt, .ref so, .ref g, .ref sc, .ref fo, .int sof])), (g, .inr (0, [.ref gp, .ref gt, .ref ge, .ref gd, .ref gs, .int (nI cnt), .ref gn, .ref gl])), (gp, .inr (4, [.ref gpa, .int (nI om)])), (gpa, .inl (cI, 150, .inl op)), (gt, .inr (4, [.ref gta, .int (nI on)])), (gta, .inl (cI, 300, .inl ot)), (ge, .inl (cI, 301, .inl fe)), (gd, .inl (cI, 301, .inl fd)), (gs, .inl (cI, 301, .inl fs)), (gn, .inl (cI, 151, .inl fn)), (gl, .inl (cI, 151, .inl fl)), (ou, .inl (cL, 1, .inr (.inl fo9)))] sz) ([(x, .inr (5, [.ref xp, .ref xt, .ref so, .ref g, .ref sc, .ref fo, .int sof])), (g, .inr (0, [.ref gp, .ref gt, .ref ge, .ref gd, .ref gs, .int (nI cnt), .ref gn, .ref gl])), (gp, .inr (4, [.ref gpa, .int (nI om)])), (gpa, .inl (cI, 150, .inl op)), (gt, .inr (4, [.ref gta, .int (nI on)])), (gta, .inl (cI, 300, .inl ot)), (ge, .inl (cI, 301, .inl fe)), (gd, .inl (cI, 301, .inl fd)), (gs, .inl (cI, 301, .inl fs)), (gn, .inl (cI, 151, .inl fn)), (gl, .inl (cI, 151, .inl fl)), (ou, .inl (cL, 1, .inr (.inl (vp_updL fo9 0 (fs i).toInt64))))])) (va_A [(x, .inr (5, [.ref xp, .ref xt, .ref so, .ref g, .ref sc, .ref fo, .int sof])), (g, .inr (0, [.ref gp, .ref gt, .ref ge, .ref gd, .ref gs, .int (nI cnt), .ref gn, .ref gl])), (gp, .inr (4, [.ref gpa, .int (nI om)])), (gpa, .inl (cI, 150, .inl op)), (gt, .inr (4, [.ref gta, .int (nI on)])), (gta, .inl (cI, 300, .inl ot)), (ge, .inl (cI, 301, .inl fe)), (gd, .inl (cI, 301, .inl fd)), (gs, .inl (cI, 301, .inl fs)), (gn, .inl (cI, 151, .inl fn)), (gl, .inl (cI, 151, .inl fl)), (ou, .inl (cL, 1, .inr (.inl fo9)))] sz)) 0 0 (va_A [(x, .inr (5, [.ref xp, .ref xt, .ref so, .ref g, .ref sc, .ref fo, .int sof])), (g, .inr (0, [.ref gp, .ref gt, .ref ge, .ref gd, .ref gs, .int (nI cnt), .ref gn, .ref gl])), (gp, .inr (4, [.ref gpa, .int (nI om)])), (gpa, .inl (cI, 150, .inl op)), (gt, .inr (4, [.ref gta, .int (nI on)])), (gta, .inl (cI, 300, .inl ot)), (ge, .inl (cI, 301, .inl fe)), (gd, .inl (cI, 301, .inl fd)), (gs, .inl (cI, 301, .inl fs)), (gn, .inl (cI, 151, .inl fn)), (gl, .inl (cI, 151, .inl fl)), (ou, .inl (cL, 1, .inr (.inl fo9)))] sz) := by
  refine va_MetW (hh := [(0, 10, 13, 13), (0, 10, 17, 25)]) (cc := cL_found) (maxL := 5) (ret := (some .int)) (by decide) rfl ?_
  intro p e s m args below meth c s₁ B hml hv
  obtain ⟨rfl, hsz, hP, hK, hD0⟩ := hv
  have hx := B.exec
  have hb := B.bytes
  have hr := B.returns
  have hts := atoms_spec (ws := wsL_found) B.pre
  have hown : s.vm.findClass RL = some m.cls := findClass_of_methodNamed B.named
  have hlocks := B.notSynchronized
  subst hsz
  have hD := hD0.self (sz := s.heap.size)
  generalize hAe : va_A [(x, .inr (5, [.ref xp, .ref xt, .ref so, .ref g, .ref sc, .ref fo, .int sof])), (g, .inr (0, [.ref gp, .ref gt, .ref ge, .ref gd, .ref gs, .int (nI cnt), .ref gn, .ref gl])), (gp, .inr (4, [.ref gpa, .int (nI om)])), (gpa, .inl (cI, 150, .inl op)), (gt, .inr (4, [.ref gta, .int (nI on)])), (gta, .inl (cI, 300, .inl ot)), (ge, .inl (cI, 301, .inl fe)), (gd, .inl (cI, 301, .inl fd)), (gs, .inl (cI, 301, .inl fs)), (gn, .inl (cI, 151, .inl fn)), (gl, .inl (cI, 151, .inl fl)), (ou, .inl (cL, 1, .inr (.inl fo9)))] s.heap.size = A at hD ⊢
  have hA : ∀ q : Nat, s.heap.size ≤ q → A q := fun q h => by rw [← hAe]; exact Or.inr h
  have hl := lv_entry ([.ref x, .int (nI i), .int what, .ref ou]) (n := 5) (Nat.le_of_ble_eq_true rfl)
  rw [lg_entry_eq]
  generalize (lg_sl ([.ref x, .int (nI i), .int what, .ref ou]) ++ List.replicate (5 - (lg_sl ([.ref x, .int (nI i), .int what, .ref ou])).length) Slot.unset).toArray = ls at hl ⊢
  have hl : lv_has ls 5 [(0, .ref x), (1, .int (nI i)), (2, .int what), (3, .ref ou)] := hl
  refine hv_start (A := A) (ws := [(x, .inr (5, [.ref xp, .ref xt, .ref so, .ref g, .ref sc, .ref fo, .int sof])), (g, .inr (0, [.ref gp, .ref gt, .ref ge, .ref gd, .ref gs, .int (nI cnt), .ref gn, .ref gl])), (gp, .inr (4, [.ref gpa, .int (nI om)])), (gpa, .inl (cI, 150, .inl op)), (gt, .inr (4, [.ref gta, .int (nI on)])), (gta, .inl (cI, 300, .inl ot)), (ge, .inl (cI, 301, .inl fe)), (gd, .inl (cI, 301, .inl fd)), (gs, .inl (cI, 301, .inl fs)), (gn, .inl (cI, 151, .inl fn)), (gl, .inl (cI, 151, .inl fl)), (ou, .inl (cL, 1, .inr (.inl fo9)))]) hP (fun H locs hP hS => ?_)
  refine lv_aload_n hx hb dL_found_0 rfl (lv_at hl 3 rfl) ?_
  refine lv_iconst (v := 0) hx hb dL_found_1 (by decide) ?_
  refine lv_aload_n hx hb dL_found_2 rfl (lv_at hl 0 rfl) ?_
  refine lv_iload_n hx hb dL_found_3 rfl (lv_at hl 1 rfl) ?_
  refine lv_iload_n hx hb dL_found_4 rfl (lv_at hl 2 rfl) ?_
  have fr := fr_x (wc := [(x, .inr (5, [.ref xp, .ref xt, .ref so, .ref g, .ref sc, .ref fo, .int sof])), (g, .inr (0, [.ref gp, .ref gt, .ref ge, .ref gd, .ref gs, .int (nI cnt), .ref gn, .ref gl])), (gp, .inr (4, [.ref gpa, .int (nI om)])), (gpa, .inl (cI, 150, .inl op)), (gt, .inr (4, [.ref gta, .int (nI on)])), (gta, .inl (cI, 300, .inl ot)), (ge, .inl (cI, 301, .inl fe)), (gd, .inl (cI, 301, .inl fd)), (gs, .inl (cI, 301, .inl fs)), (gn, .inl (cI, 151, .inl fn)), (gl, .inl (cI, 151, .inl fl))]) (wr := [(ou, .inl (cL, 1, .inr (.inl fo9)))]) hP hD hS hA [0, 1, 2, 3, 4, 5, 6, 7, 8, 9, 10] [11] rfl rfl (by decide) (by decide) (by decide)
  refine cv_i (J := fun _ => [(x, .inr (5, [.ref xp, .ref xt, .ref so, .ref g, .ref sc, .ref fo, .int sof])), (g, .inr (0, [.ref gp, .ref gt, .ref ge, .ref gd, .ref gs, .int (nI cnt), .ref gn, .ref gl])), (gp, .inr (4, [.ref gpa, .int (nI om)])), (gpa, .inl (cI, 150, .inl op)), (gt, .inr (4, [.ref gta, .int (nI on)])), (gta, .inl (cI, 300, .inl ot)), (ge, .inl (cI, 301, .inl fe)), (gd, .inl (cI, 301, .inl fd)), (gs, .inl (cI, 301, .inl fs)), (gn, .inl (cI, 151, .inl fn)), (gl, .inl (cI, 151, .inl fl)), (ou, .inl (cL, 1, .inr (.inl fo9)))]) (As := [.int (nI i), .int what]) (rest := [.int 0, .ref ou]) (q0 := 0) (ci := 5) ⟨hx, hb, hml, hown, hts⟩ (c_X5_found_2 l D cI cJ cL H.size x xp xt so g sc fo sof gp gpa gt gta ge gd gs gn gl om on cnt op ot fe fd fs fn fl i what hi hc h0) (cwV 2 hts gL_found_X5_found rfl rfl rfl (by decide +kernel) ⟨Nat.le_of_ble_eq_true rfl, Nat.le_of_ble_eq_true rfl⟩) hK fr.1 fr.2.1 fr.2.2.1 (fun H1 u hk h1 h2 => ⟨(fr.2.2.2 _ H1 hk h1 h2).1.sub [1, 2, 3, 4, 5, 6, 7, 8, 9, 10, 11, 0] rfl, (fr.2.2.2 _ H1 hk h1 h2).2.sub [1, 2, 3, 4, 5, 6, 7, 8, 9, 10, 11, 0] (by decide) rfl⟩) hS rfl rfl rfl rfl hl.1 rfl (Nat.le_of_ble_eq_true rfl) dL_found_5 ⟨Nat.zero_le _, Nat.zero_le _⟩ (fun r_2 u_1 H locs hw hP hD hS => ?_)
  refine lv_cv (y := fs i) hw ?_
  refine lv_i2l hx hb dL_found_8 rfl ?_
  refine va_lastN hx hb hK hP hD hS 11 2 rfl rfl (x := (fs i).toInt64) (by decide) (by decide) dL_found_9 (fun H locs hP hD hS => ?_)
  have hP : va_P D vwCl [(x, .inr (5, [.ref xp, .ref xt, .ref so, .ref g, .ref sc, .ref fo, .int sof])), (g, .inr (0, [.ref gp, .ref gt, .ref ge, .ref gd, .ref gs, .int (nI cnt), .ref gn, .ref gl])), (gp, .inr (4, [.ref gpa, .int (nI om)])), (gpa, .inl (cI, 150, .inl op)), (gt, .inr (4, [.ref gta, .int (nI on)])), (gta, .inl (cI, 300, .inl ot)), (ge, .inl (cI, 301, .inl fe)), (gd, .inl (cI, 301, .inl fd)), (gs, .inl (cI, 301, .inl fs)), (gn, .inl (cI, 151, .inl fn)), (gl, .inl (cI, 151, .inl fl)), (ou, .inl (cL, 1, .inr (.inl (vp_updL fo9 0 ((fs i).toInt64)))))] H := hP
  have hD : va_D A [(x, .inr (5, [.ref xp, .ref xt, .ref so, .ref g, .ref sc, .ref fo, .int sof])), (g, .inr (0, [.ref gp, .ref gt, .ref ge, .ref gd, .ref gs, .int (nI cnt), .ref gn, .ref gl])), (gp, .inr (4, [.ref gpa, .int (nI om)])), (gpa, .inl (cI, 150, .inl op)), (gt, .inr (4, [.ref gta, .int (nI on)])), (gta, .inl (cI, 300, .inl ot)), (ge, .inl (cI, 301, .inl fe)), (gd, .inl (cI, 301, .inl fd)), (gs, .inl (cI, 301, .inl fs)), (gn, .inl (cI, 151, .inl fn)), (gl, .inl (cI, 151, .inl fl)), (ou, .inl (cL, 1, .inr (.inl (vp_updL fo9 0 ((fs i).toInt64)))))] := hD
  refine lv_goto (tgt := 21) hx hb dL_found_10 (by decide) ?_
  refine lv_iconst (v := 0) hx hb dL_found_21 (by decide) ?_
  exact fin_i () hx hb hr hlocks dL_found_22 hK hS hP hD rfl

set_option maxHeartbeats 4000000 in
set_option maxRecDepth 100000 in
theorem c_L_found_3 (l : Launch) (D : va_G) (cI cJ cL : ClassId) (sz : Nat) (x : Nat) (xp : Nat) (xt : Nat) (so : Nat) (g : Nat) (sc : Nat) (fo : Nat) (sof : Int32) (gp : Nat) (gpa : Nat) (gt : Nat) (gta : Nat) (ge : Nat) (gd : Nat) (gs : Nat) (gn : Nat) (gl : Nat) (om : Nat) (on : Nat) (cnt : Nat) (op : Nat → Int32) (ot : Nat → Int32) (fe : Nat → Int32) (fd : Nat → Int32) (fs : Nat → Int32) (fn : Nat → Int32) (fl : Nat → Int32) (ss : Nat) (sr : Nat) (len : Nat) (vs : Nat → Int32) (rg : Nat → Option Nat) (LP : List Nat) (pl : Nat → Nat) (pr : Nat → Nat → Int32) (rM : Nat → Nat → Int32) (st : Nat) (en : Nat) (i : Nat) (what : Int32) (ou : Nat) (fo9 : Nat → Int64) (hG : gr_ok rg LP pl pr 151 301 rM) (hom : om ≤ 150) (hon : on ≤ 300) (hen : en ≤ on) (hst : st ≤ en) (hic : i < cnt) (hcnt : cnt ≤ 301) (hfe : fe i = nI en) (hfs : fs i = nI st) (hcs : sof = nI i → px_sc op ot om st en len vs ∧ len ≤ 450) (h0 : what = 3) :
    Met l yL_found wsL_found { frames := 6, cells := 0, slots := 0, locals := 143 } (va_Pc [.ref x, .int (nI i), .int what, .ref ou] (Wd D [(cI, .int), (cJ, .array .int), (cL, .long)] ([(x, .inr (5, [.ref xp, .ref xt, .ref so, .ref g, .ref sc, .ref fo, .int sof])), (g, .inr (0, [.ref gp, .ref gt, .ref ge, .ref gd, .ref gs, .int (nI cnt), .ref gn, .ref gl])), (gp, .inr (4, [.ref gpa, .int (nI om)])), (gpa, .inl (cI, 150, .inl op)), (gt, .inr (4, [.ref gta, .int (nI on)])), (gta, .inl (cI, 300, .inl ot)), (ge, .inl (cI, 301, .inl fe)), (gd, .inl (cI, 301, .inl fd)), (gs, .inl (cI, 301, .inl fs)), (gn, .inl (cI, 151, .inl fn)), (gl, .inl (cI, 151, .inl fl)), (sc, .inr (3, [.ref ss, .int (nI len), .ref sr])), (ss, .inl (cI, 450, .inl vs)), (sr, .inl (cJ, 151, .inr (.inr (.inr (.inr rg))))), (ou, .inl (cL, 1, .inr (.inl fo9)))] ++ va_pl LP (gF cI pl pr)) sz))
      (va_Qi (fun (r : Int32) (u : Nat × (Nat → Int32) × (Nat → Nat → Int32) × (Nat → Nat → Int32)) => r = 0 ∧ px_sc op ot om st en u.1 u.2.1 ∧ u.1 ≤ 450 ∧ gr_ok rg LP pl u.2.2.1 151 301 u.2.2.2 ∧ ∀ z, (∀ i, i < 151 → rg i ≠ some z) → u.2.2.1 z = pr z) (fun u => Wa D [(cI, .int), (cJ, .array .int), (cL, .long)] (va_A ([(x, .inr (5, [.ref xp, .ref xt, .ref so, .ref g, .ref sc, .ref fo, .int sof])), (g, .inr (0, [.ref gp, .ref gt, .ref ge, .ref gd, .ref gs, .int (nI cnt), .ref gn, .ref gl])), (gp, .inr (4, [.ref gpa, .int (nI om)])), (gpa, .inl (cI, 150, .inl op)), (gt, .inr (4, [.ref gta, .int (nI on)])), (gta, .inl (cI, 300, .inl ot)), (ge, .inl (cI, 301, .inl fe)), (gd, .inl (cI, 301, .inl fd)), (gs, .inl (cI, 301, .inl fs)), (gn, .inl (cI, 151, .inl fn)), (gl, .inl (cI, 151, .inl fl)), (sc, .inr (3, [.ref ss, .int (nI len), .ref sr])), (ss, .inl (cI, 450, .inl vs)), (sr, .inl (cJ, 151, .inr (.inr (.inr (.inr rg))))), (ou, .inl (cL, 1, .inr (.inl fo9)))] ++ va_pl LP (gF cI pl pr)) sz) (([(x, .inr (5, [.ref xp, .ref xt, .ref so, .ref g, .ref sc, .ref fo, .int (nI i)])), (g, .inr (0, [.ref gp, .ref gt, .ref ge, .ref gd, .ref gs, .int (nI cnt), .ref gn, .ref gl])), (gp, .inr (4, [.ref gpa, .int (nI om)])), (gpa, .inl (cI, 150, .inl op)), (gt, .inr (4, [.ref gta, .int (nI on)])), (gta, .inl (cI, 300, .inl ot)), (ge, .inl (cI, 301, .inl fe)), (gd, .inl (cI, 301, .inl fd)), (gs, .inl (cI, 301, .inl fs)), (gn, .inl (cI, 151, .inl fn)), (gl, .inl (cI, 151, .inl fl)), (sc, .inr (3, [.ref ss, .int (nI u.1), .ref sr])), (ss, .inl (cI, 450, .inl u.2.1)), (sr, .inl (cJ, 151, .inr (.inr (.inr (.inr rg))))), (ou, .inl (cL, 1, .inr (.inl (vp_updL fo9 0 (nI u.1).toInt64))))] ++ va_pl LP (gF cI pl u.2.2.1)))) (va_A ([(x, .inr (5, [.ref xp, .ref xt, .ref so, .ref g, .ref sc, .ref fo, .int sof])), (g, .inr (0, [.ref gp, .ref gt, .ref ge, .ref gd, .ref gs, .int (nI cnt), .ref gn, .ref gl])), (gp, .inr (4, [.ref gpa, .int (nI om)])), (gpa, .inl (cI, 150, .inl op)), (gt, .inr (4, [.ref gta, .int (nI on)])), (gta, .inl (cI, 300, .inl ot)), (ge, .inl (cI, 301, .inl fe)), (gd, .inl (cI, 301, .inl fd)), (gs, .inl (cI, 301, .inl fs)), (gn, .inl (cI, 151, .inl fn)), (gl, .inl (cI, 151, .inl fl)), (sc, .inr (3, [.ref ss, .int (nI len), .ref sr])), (ss, .inl (cI, 450, .inl vs)), (sr, .inl (cJ, 151, .inr (.inr (.inr (.inr rg))))), (ou, .inl (cL, 1, .inr (.inl fo9)))] ++ va_pl LP (gF cI pl pr)) sz)) 0 0 (va_A ([(x, .inr (5, [.ref xp, .ref xt, .ref so, .ref g, .ref sc, .ref fo, .int sof])), (g, .inr (0, [.ref gp, .ref gt, .ref ge, .ref gd, .ref gs, .int (nI cnt), .ref gn, .ref gl])), (gp, .inr (4, [.ref gpa, .int (nI om)])), (gpa, .inl (cI, 150, .inl op)), (gt, .inr (4, [.ref gta, .int (nI on)])), (gta, .inl (cI, 300, .inl ot)), (ge, .inl (cI, 301, .inl fe)), (gd, .inl (cI, 301, .inl fd)), (gs, .inl (cI, 301, .inl fs)), (gn, .inl (cI, 151, .inl fn)), (gl, .inl (cI, 151, .inl fl)), (sc, .inr (3, [.ref ss, .int (nI len), .ref sr])), (ss, .inl (cI, 450, .inl vs)), (sr, .inl (cJ, 151, .inr (.inr (.inr (.inr rg))))), (ou, .inl (cL, 1, .inr (.inl fo9)))] ++ va_pl LP (gF cI pl pr)) sz) := by
  refine va_MetW (hh := [(0, 10, 13, 13), (0, 10, 17, 25)]) (cc := cL_found) (maxL := 5) (ret := (some .int)) (by decide) rfl ?_
  intro p e s m args below meth c s₁ B hml hv
  obtain ⟨rfl, hsz, hP, hK, hD0⟩ := hv
  have hx := B.exec
  have hb := B.bytes
  have hr := B.returns
  have hts := atoms_spec (ws := wsL_found) B.pre
  have hown : s.vm.findClass RL = some m.cls := findClass_of_methodNamed B.named
  have hlocks := B.notSynchronized
  subst hsz
  have hD := hD0.self (sz := s.heap.size)
  generalize hAe : va_A ([(x, .inr (5, [.ref xp, .ref xt, .ref so, .ref g, .ref sc, .ref fo, .int sof])), (g, .inr (0, [.ref gp, .ref gt, .ref ge, .ref gd, .ref gs, .int (nI cnt), .ref gn, .ref gl])), (gp, .inr (4, [.ref gpa, .int (nI om)])), (gpa, .inl (cI, 150, .inl op)), (gt, .inr (4, [.ref gta, .int (nI on)])), (gta, .inl (cI, 300, .inl ot)), (ge, .inl (cI, 301, .inl fe)), (gd, .inl (cI, 301, .inl fd)), (gs, .inl (cI, 301, .inl fs)), (gn, .inl (cI, 151, .inl fn)), (gl, .inl (cI, 151, .inl fl)), (sc, .inr (3, [.ref ss, .int (nI len), .ref sr])), (ss, .inl (cI, 450, .inl vs)), (sr, .inl (cJ, 151, .inr (.inr (.inr (.inr rg))))), (ou, .inl (cL, 1, .inr (.inl fo9)))] ++ va_pl LP (gF cI pl pr)) s.heap.size = A at hD ⊢
  have hA : ∀ q : Nat, s.heap.size ≤ q → A q := fun q h => by rw [← hAe]; exact Or.inr h
  have hl := lv_entry ([.ref x, .int (nI i), .int what, .ref ou]) (n := 5) (Nat.le_of_ble_eq_true rfl)
  rw [lg_entry_eq]
  generalize (lg_sl ([.ref x, .int (nI i), .int what, .ref ou]) ++ List.replicate (5 - (lg_sl ([.ref x, .int (nI i), .int what, .ref ou])).length) Slot.unset).toArray = ls at hl ⊢
  have hl : lv_has ls 5 [(0, .ref x), (1, .int (nI i)), (2, .int what), (3, .ref ou)] := hl
  refine hv_start (A := A) (ws := ([(x, .inr (5, [.ref xp, .ref xt, .ref so, .ref g, .ref sc, .ref fo, .int sof])), (g, .inr (0, [.ref gp, .ref gt, .ref ge, .ref gd, .ref gs, .int (nI cnt), .ref gn, .ref gl])), (gp, .inr (4, [.ref gpa, .int (nI om)])), (gpa, .inl (cI, 150, .inl op)), (gt, .inr (4, [.ref gta, .int (nI on)])), (gta, .inl (cI, 300, .inl ot)), (ge, .inl (cI, 301, .inl fe)), (gd, .inl (cI, 301, .inl fd)), (gs, .inl (cI, 301, .inl fs)), (gn, .inl (cI, 151, .inl fn)), (gl, .inl (cI, 151, .inl fl)), (sc, .inr (3, [.ref ss, .int (nI len), .ref sr])), (ss, .inl (cI, 450, .inl vs)), (sr, .inl (cJ, 151, .inr (.inr (.inr (.inr rg))))), (ou, .inl (cL, 1, .inr (.inl fo9)))] ++ va_pl LP (gF cI pl pr))) hP (fun H locs hP hS => ?_)
  refine lv_aload_n hx hb dL_found_0 rfl (lv_at hl 3 rfl) ?_
  refine lv_iconst (v := 0) hx hb dL_found_1 (by decide) ?_
  refine lv_aload_n hx hb dL_found_2 rfl (lv_at hl 0 rfl) ?_
  refine lv_iload_n hx hb dL_found_3 rfl (lv_at hl 1 rfl) ?_
  refine lv_iload_n hx hb dL_found_4 rfl (lv_at hl 2 rfl) ?_
  have fr := fr_p (X := [(x, .inr (5, [.ref xp, .ref xt, .ref so, .ref g, .ref sc, .ref fo, .int sof])), (g, .inr (0, [.ref gp, .ref gt, .ref ge, .ref gd, .ref gs, .int (nI cnt), .ref gn, .ref gl])), (gp, .inr (4, [.ref gpa, .int (nI om)])), (gpa, .inl (cI, 150, .inl op)), (gt, .inr (4, [.ref gta, .int (nI on)])), (gta, .inl (cI, 300, .inl ot)), (ge, .inl (cI, 301, .inl fe)), (gd, .inl (cI, 301, .inl fd)), (gs, .inl (cI, 301, .inl fs)), (gn, .inl (cI, 151, .inl fn)), (gl, .inl (cI, 151, .inl fl)), (sc, .inr (3, [.ref ss, .int (nI len), .ref sr])), (ss, .inl (cI, 450, .inl vs)), (sr, .inl (cJ, 151, .inr (.inr (.inr (.inr rg))))), (ou, .inl (cL, 1, .inr (.inl fo9)))]) (cx := [(x, .inr (5, [.ref xp, .ref xt, .ref so, .ref g, .ref sc, .ref fo, .int sof])), (g, .inr (0, [.ref gp, .ref gt, .ref ge, .ref gd, .ref gs, .int (nI cnt), .ref gn, .ref gl])), (gp, .inr (4, [.ref gpa, .int (nI om)])), (gpa, .inl (cI, 150, .inl op)), (gt, .inr (4, [.ref gta, .int (nI on)])), (gta, .inl (cI, 300, .inl ot)), (ge, .inl (cI, 301, .inl fe)), (gd, .inl (cI, 301, .inl fd)), (gs, .inl (cI, 301, .inl fs)), (gn, .inl (cI, 151, .inl fn)), (gl, .inl (cI, 151, .inl fl)), (sc, .inr (3, [.ref ss, .int (nI len), .ref sr])), (ss, .inl (cI, 450, .inl vs)), (sr, .inl (cJ, 151, .inr (.inr (.inr (.inr rg)))))]) (wr := [(ou, .inl (cL, 1, .inr (.inl fo9)))]) (pl := va_pl LP (gF cI pl pr)) hP hD hS hA [0, 1, 2, 3, 4, 5, 6, 7, 8, 9, 10, 11, 12, 13] [14] rfl rfl (by decide) (by decide) (by decide)
  refine cv_i (J := fun u => ([(x, .inr (5, [.ref xp, .ref xt, .ref so, .ref g, .ref sc, .ref fo, .int (nI i)])), (g, .inr (0, [.ref gp, .ref gt, .ref ge, .ref gd, .ref gs, .int (nI cnt), .ref gn, .ref gl])), (gp, .inr (4, [.ref gpa, .int (nI om)])), (gpa, .inl (cI, 150, .inl op)), (gt, .inr (4, [.ref gta, .int (nI on)])), (gta, .inl (cI, 300, .inl ot)), (ge, .inl (cI, 301, .inl fe)), (gd, .inl (cI, 301, .inl fd)), (gs, .inl (cI, 301, .inl fs)), (gn, .inl (cI, 151, .inl fn)), (gl, .inl (cI, 151, .inl fl)), (sc, .inr (3, [.ref ss, .int (nI u.1), .ref sr])), (ss, .inl (cI, 450, .inl u.2.1)), (sr, .inl (cJ, 151, .inr (.inr (.inr (.inr rg))))), (ou, .inl (cL, 1, .inr (.inl fo9)))] ++ va_pl LP (gF cI pl u.2.2.1))) (As := [.int (nI i), .int what]) (rest := [.int 0, .ref ou]) (q0 := 0) (ci := 5) ⟨hx, hb, hml, hown, hts⟩ (c_X5_found_3 l D cI cJ cL H.size x xp xt so g sc fo sof gp gpa gt gta ge gd gs gn gl om on cnt op ot fe fd fs fn fl ss sr len vs rg LP pl pr rM st en i what hG hom hon hen hst hic hcnt hfe hfs hcs h0) (cwV 2 hts gL_found_X5_found rfl rfl rfl (by decide +kernel) ⟨Nat.le_of_ble_eq_true rfl, Nat.le_of_ble_eq_true rfl⟩) hK fr.1 fr.2.1 fr.2.2.1 (fun H1 u hk h1 h2 => ⟨(fr.2.2.2 _ _ H1 hk h1 h2).1.part [1, 2, 3, 4, 5, 6, 7, 8, 9, 10, 11, 12, 13, 14, 0] rfl, (fr.2.2.2 _ _ H1 hk h1 h2).2.part [1, 2, 3, 4, 5, 6, 7, 8, 9, 10, 11, 12, 13, 14, 0] (by decide) rfl⟩) hS rfl rfl rfl rfl hl.1 rfl (Nat.le_of_ble_eq_true rfl) dL_found_5 ⟨Nat.zero_le _, Nat.zero_le _⟩ (fun r_2 u_1 H locs hw hP hD hS => ?_)
  obtain ⟨hr9, hw9⟩ := hw
  refine lv_cv (y := nI u_1.1) hr9 ?_
  refine lv_i2l hx hb dL_found_8 rfl ?_
  refine va_lastN hx hb hK hP hD hS 14 2 rfl rfl (x := (nI u_1.1).toInt64) (by decide) (by decide) dL_found_9 (fun H locs hP hD hS => ?_)
  have hP : va_P D vwCl ([(x, .inr (5, [.ref xp, .ref xt, .ref so, .ref g, .ref sc, .ref fo, .int (nI i)])), (g, .inr (0, [.ref gp, .ref gt, .ref ge, .ref gd, .ref gs, .int (nI cnt), .ref gn, .ref gl])), (gp, .inr (4, [.ref gpa, .int (nI om)])), (gpa, .inl (cI, 150, .inl op)), (gt, .inr (4, [.ref gta, .int (nI on)])), (gta, .inl (cI, 300, .inl ot)), (ge, .inl (cI, 301, .inl fe)), (gd, .inl (cI, 301, .inl fd)), (gs, .inl (cI, 301, .inl fs)), (gn, .inl (cI, 151, .inl fn)), (gl, .inl (cI, 151, .inl fl)), (sc, .inr (3, [.ref ss, .int (nI u_1.1), .ref sr])), (ss, .inl (cI, 450, .inl u_1.2.1)), (sr, .inl (cJ, 151, .inr (.inr (.inr (.inr rg))))), (ou, .inl (cL, 1, .inr (.inl (vp_updL fo9 0 ((nI u_1.1).toInt64)))))] ++ va_pl LP (gF cI pl u_1.2.2.1)) H := hP
  have hD : va_D A ([(x, .inr (5, [.ref xp, .ref xt, .ref so, .ref g, .ref sc, .ref fo, .int (nI i)])), (g, .inr (0, [.ref gp, .ref gt, .ref ge, .ref gd, .ref gs, .int (nI cnt), .ref gn, .ref gl])), (gp, .inr (4, [.ref gpa, .int (nI om)])), (gpa, .inl (cI, 150, .inl op)), (gt, .inr (4, [.ref gta, .int (nI on)])), (gta, .inl (cI, 300, .inl ot)), (ge, .inl (cI, 301, .inl fe)), (gd, .inl (cI, 301, .inl fd)), (gs, .inl (cI, 301, .inl fs)), (gn, .inl (cI, 151, .inl fn)), (gl, .inl (cI, 151, .inl fl)), (sc, .inr (3, [.ref ss, .int (nI u_1.1), .ref sr])), (ss, .inl (cI, 450, .inl u_1.2.1)), (sr, .inl (cJ, 151, .inr (.inr (.inr (.inr rg))))), (ou, .inl (cL, 1, .inr (.inl (vp_updL fo9 0 ((nI u_1.1).toInt64)))))] ++ va_pl LP (gF cI pl u_1.2.2.1)) := hD
  refine lv_goto (tgt := 21) hx hb dL_found_10 (by decide) ?_
  refine lv_iconst (v := 0) hx hb dL_found_21 (by decide) ?_
  exact fin_i u_1 hx hb hr hlocks dL_found_22 hK hS hP hD ⟨rfl, hw9⟩

set_option maxHeartbeats 4000000 in
set_option maxRecDepth 100000 in
theorem c_L_found_nf (l : Launch) (htr : l.stackTraces = false) (D : va_G) (cI cJ cL : ClassId) (sz : Nat) (x : Nat) (xp : Nat) (xt : Nat) (so : Nat) (g : Nat) (sc : Nat) (fo : Nat) (sof : Int32) (gp : Nat) (gpa : Nat) (gt : Nat) (gta : Nat) (ge : Nat) (gd : Nat) (gs : Nat) (gn : Nat) (gl : Nat) (om : Nat) (on : Nat) (cnt : Nat) (op : Nat → Int32) (ot : Nat → Int32) (fe : Nat → Int32) (fd : Nat → Int32) (fs : Nat → Int32) (fn : Nat → Int32) (fl : Nat → Int32) (f : Int32) (what : Int32) (ou : Nat) (fo9 : Nat → Int64) (h0 : ¬ (0 ≤ f ∧ f < nI cnt)) :
    Met l yL_found wsL_found { frames := 7, cells := 1, slots := 6, locals := 112 } (va_Pc [.ref x, .int f, .int what, .ref ou] (Wx D [(cI, .int), (cJ, .array .int), (cL, .long)] [(x, .inr (5, [.ref xp, .ref xt, .ref so, .ref g, .ref sc, .ref fo, .int sof])), (g, .inr (0, [.ref gp, .ref gt, .ref ge, .ref gd, .ref gs, .int (nI cnt), .ref gn, .ref gl])), (gp, .inr (4, [.ref gpa, .int (nI om)])), (gpa, .inl (cI, 150, .inl op)), (gt, .inr (4, [.ref gta, .int (nI on)])), (gta, .inl (cI, 300, .inl ot)), (ge, .inl (cI, 301, .inl fe)), (gd, .inl (cI, 301, .inl fd)), (gs, .inl (cI, 301, .inl fs)), (gn, .inl (cI, 151, .inl fn)), (gl, .inl (cI, 151, .inl fl)), (ou, .inl (cL, 1, .inr (.inl fo9)))] sz))
      (va_Qi (fun (r : Int32) (_ : Unit) => r = 1) (fun _ => Wa D [(cI, .int), (cJ, .array .int), (cL, .long)] (va_A [(x, .inr (5, [.ref xp, .ref xt, .ref so, .ref g, .ref sc, .ref fo, .int sof])), (g, .inr (0, [.ref gp, .ref gt, .ref ge, .ref gd, .ref gs, .int (nI cnt), .ref gn, .ref gl])), (gp, .inr (4, [.ref gpa, .int (nI om)])), (gpa, .inl (cI, 150, .inl op)), (gt, .inr (4, [.ref gta, .int (nI on)])), (gta, .inl (cI, 300, .inl ot)), (ge, .inl (cI, 301, .inl fe)), (gd, .inl (cI, 301, .inl fd)), (gs, .inl (cI, 301, .inl fs)), (gn, .inl (cI, 151, .inl fn)), (gl, .inl (cI, 151, .inl fl)), (ou, .inl (cL, 1, .inr (.inl fo9)))] sz) ([(x, .inr (5, [.ref xp, .ref xt, .ref so, .ref g, .ref sc, .ref fo, .int sof])), (g, .inr (0, [.ref gp, .ref gt, .ref ge, .ref gd, .ref gs, .int (nI cnt), .ref gn, .ref gl])), (gp, .inr (4, [.ref gpa, .int (nI om)])), (gpa, .inl (cI, 150, .inl op)), (gt, .inr (4, [.ref gta, .int (nI on)])), (gta, .inl (cI, 300, .inl ot)), (ge, .inl (cI, 301, .inl fe)), (gd, .inl (cI, 301, .inl fd)), (gs, .inl (cI, 301, .inl fs)), (gn, .inl (cI, 151, .inl fn)), (gl, .inl (cI, 151, .inl fl)), (ou, .inl (cL, 1, .inr (.inl fo9)))])) (va_A [(x, .inr (5, [.ref xp, .ref xt, .ref so, .ref g, .ref sc, .ref fo, .int sof])), (g, .inr (0, [.ref gp, .ref gt, .ref ge, .ref gd, .ref gs, .int (nI cnt), .ref gn, .ref gl])), (gp, .inr (4, [.ref gpa, .int (nI om)])), (gpa, .inl (cI, 150, .inl op)), (gt, .inr (4, [.ref gta, .int (nI on)])), (gta, .inl (cI, 300, .inl ot)), (ge, .inl (cI, 301, .inl fe)), (gd, .inl (cI, 301, .inl fd)), (gs, .inl (cI, 301, .inl fs)), (gn, .inl (cI, 151, .inl fn)), (gl, .inl (cI, 151, .inl fl)), (ou, .inl (cL, 1, .inr (.inl fo9)))] sz)) 1 6 (va_A [(x, .inr (5, [.ref xp, .ref xt, .ref so, .ref g, .ref sc, .ref fo, .int sof])), (g, .inr (0, [.ref gp, .ref gt, .ref ge, .ref gd, .ref gs, .int (nI cnt), .ref gn, .ref gl])), (gp, .inr (4, [.ref gpa, .int (nI om)])), (gpa, .inl (cI, 150, .inl op)), (gt, .inr (4, [.ref gta, .int (nI on)])), (gta, .inl (cI, 300, .inl ot)), (ge, .inl (cI, 301, .inl fe)), (gd, .inl (cI, 301, .inl fd)), (gs, .inl (cI, 301, .inl fs)), (gn, .inl (cI, 151, .inl fn)), (gl, .inl (cI, 151, .inl fl)), (ou, .inl (cL, 1, .inr (.inl fo9)))] sz) := by
  refine va_MetW (hh := [(0, 10, 13, 13), (0, 10, 17, 25)]) (cc := cL_found) (maxL := 5) (ret := (some .int)) (by decide) rfl ?_
  intro p e s m args below meth c s₁ B hml hv
  obtain ⟨rfl, ⟨hsz, hP, hK, hD0⟩, hE⟩ := hv
  have htab := vx_table (x := yL_found) B (atoms_spec (ws := wsL_found) B.pre _ List.mem_cons_self)
  have hx := B.exec
  have hb := B.bytes
  have hr := B.returns
  have hts := atoms_spec (ws := wsL_found) B.pre
  have hown : s.vm.findClass RL = some m.cls := findClass_of_methodNamed B.named
  have hlocks := B.notSynchronized
  subst hsz
  have hD := hD0.self (sz := s.heap.size)
  generalize hAe : va_A [(x, .inr (5, [.ref xp, .ref xt, .ref so, .ref g, .ref sc, .ref fo, .int sof])), (g, .inr (0, [.ref gp, .ref gt, .ref ge, .ref gd, .ref gs, .int (nI cnt), .ref gn, .ref gl])), (gp, .inr (4, [.ref gpa, .int (nI om)])), (gpa, .inl (cI, 150, .inl op)), (gt, .inr (4, [.ref gta, .int (nI on)])), (gta, .inl (cI, 300, .inl ot)), (ge, .inl (cI, 301, .inl fe)), (gd, .inl (cI, 301, .inl fd)), (gs, .inl (cI, 301, .inl fs)), (gn, .inl (cI, 151, .inl fn)), (gl, .inl (cI, 151, .inl fl)), (ou, .inl (cL, 1, .inr (.inl fo9)))] s.heap.size = A at hD hE ⊢
  have hA : ∀ q : Nat, s.heap.size ≤ q → A q := fun q h => by rw [← hAe]; exact Or.inr h
  have hl := lv_entry ([.ref x, .int f, .int what, .ref ou]) (n := 5) (Nat.le_of_ble_eq_true rfl)
  rw [lg_entry_eq]
  generalize (lg_sl ([.ref x, .int f, .int what, .ref ou]) ++ List.replicate (5 - (lg_sl ([.ref x, .int f, .int what, .ref ou])).length) Slot.unset).toArray = ls at hl ⊢
  have hl : lv_has ls 5 [(0, .ref x), (1, .int f), (2, .int what), (3, .ref ou)] := hl
  refine hv_start (A := A) (ws := [(x, .inr (5, [.ref xp, .ref xt, .ref so, .ref g, .ref sc, .ref fo, .int sof])), (g, .inr (0, [.ref gp, .ref gt, .ref ge, .ref gd, .ref gs, .int (nI cnt), .ref gn, .ref gl])), (gp, .inr (4, [.ref gpa, .int (nI om)])), (gpa, .inl (cI, 150, .inl op)), (gt, .inr (4, [.ref gta, .int (nI on)])), (gta, .inl (cI, 300, .inl ot)), (ge, .inl (cI, 301, .inl fe)), (gd, .inl (cI, 301, .inl fd)), (gs, .inl (cI, 301, .inl fs)), (gn, .inl (cI, 151, .inl fn)), (gl, .inl (cI, 151, .inl fl)), (ou, .inl (cL, 1, .inr (.inl fo9)))]) hP (fun H locs hP hS => ?_)
  have w_0 := hts (.classLink RL 13 nse) (by decide +kernel)
  refine lv_aload_n hx hb dL_found_0 rfl (lv_at hl 3 rfl) ?_
  refine lv_iconst (v := 0) hx hb dL_found_1 (by decide) ?_
  refine lv_aload_n hx hb dL_found_2 rfl (lv_at hl 0 rfl) ?_
  refine lv_iload_n hx hb dL_found_3 rfl (lv_at hl 1 rfl) ?_
  refine lv_iload_n hx hb dL_found_4 rfl (lv_at hl 2 rfl) ?_
  have fr := fr_x (wc := [(x, .inr (5, [.ref xp, .ref xt, .ref so, .ref g, .ref sc, .ref fo, .int sof])), (g, .inr (0, [.ref gp, .ref gt, .ref ge, .ref gd, .ref gs, .int (nI cnt), .ref gn, .ref gl])), (gp, .inr (4, [.ref gpa, .int (nI om)])), (gpa, .inl (cI, 150, .inl op)), (gt, .inr (4, [.ref gta, .int (nI on)])), (gta, .inl (cI, 300, .inl ot)), (ge, .inl (cI, 301, .inl fe)), (gd, .inl (cI, 301, .inl fd)), (gs, .inl (cI, 301, .inl fs)), (gn, .inl (cI, 151, .inl fn)), (gl, .inl (cI, 151, .inl fl))]) (wr := [(ou, .inl (cL, 1, .inr (.inl fo9)))]) hP hD hS hA [0, 1, 2, 3, 4, 5, 6, 7, 8, 9, 10] [11] rfl rfl (by decide) (by decide) (by decide)
  refine cx_v (E0 := nse) (J := fun _ => [(x, .inr (5, [.ref xp, .ref xt, .ref so, .ref g, .ref sc, .ref fo, .int sof])), (g, .inr (0, [.ref gp, .ref gt, .ref ge, .ref gd, .ref gs, .int (nI cnt), .ref gn, .ref gl])), (gp, .inr (4, [.ref gpa, .int (nI om)])), (gpa, .inl (cI, 150, .inl op)), (gt, .inr (4, [.ref gta, .int (nI on)])), (gta, .inl (cI, 300, .inl ot)), (ge, .inl (cI, 301, .inl fe)), (gd, .inl (cI, 301, .inl fd)), (gs, .inl (cI, 301, .inl fs)), (gn, .inl (cI, 151, .inl fn)), (gl, .inl (cI, 151, .inl fl)), (ou, .inl (cL, 1, .inr (.inl fo9)))]) (As := [.int f, .int what]) (rest := [.int 0, .ref ou]) (q0 := 0) (ci := 5) ⟨hx, hb, hml, hown, hts⟩ (c_X5_found_nf l htr D cI cJ cL H.size x xp xt so g sc fo sof gp gpa gt gta ge gd gs gn gl om on cnt op ot fe fd fs fn fl f what h0) (cwV 2 hts gL_found_X5_found rfl rfl rfl (by decide +kernel) ⟨Nat.le_of_ble_eq_true rfl, Nat.le_of_ble_eq_true rfl⟩) hK fr.1 fr.2.1 fr.2.2.1 (fun H1 u hk h1 h2 => ⟨(fr.2.2.2 _ H1 hk h1 h2).1.sub [1, 2, 3, 4, 5, 6, 7, 8, 9, 10, 11, 0] rfl, (fr.2.2.2 _ H1 hk h1 h2).2.sub [1, 2, 3, 4, 5, 6, 7, 8, 9, 10, 11, 0] (by decide) rfl⟩) hS hE rfl rfl rfl rfl hl.1 rfl (Nat.le_of_ble_eq_true rfl) dL_found_5 ⟨Nat.le_of_ble_eq_true rfl, Nat.le_of_ble_eq_true rfl⟩ (fun ce q9 u9 H locs hw hP hD hS hce hcv hcl => ?_)
  refine vx_catch (own := RL) (name := nse) hown [] ⟨0, 10, 13, 13⟩ [⟨0, 10, 17, 25⟩] htab (fun z hz => absurd hz List.not_mem_nil) (by decide) (by decide) w_0 (xK.at hE.2.2.2.2.2 (.castable nse nse) (by decide +kernel)) hce hcv hcl ?_
  refine W.eq (g2 := F0 m 13 ls [.ref q9]) rfl ?_
  refine lv_astore (lv' := [(4, .ref q9), (0, .ref x), (1, .int f), (2, .int what), (3, .ref ou)]) hx hb dL_found_13 hl (by decide) rfl (fun ls hl => ?_)
  refine lv_iconst (v := 1) hx hb dL_found_15 (by decide) ?_
  refine W.widen (k := 1) (n := 6) (by decide) (by decide) ?_
  exact fin_i () hx hb hr hlocks dL_found_16 hK hS hP hD rfl

set_option maxHeartbeats 4000000 in
set_option maxRecDepth 100000 in
theorem c_L_found_nw (l : Launch) (htr : l.stackTraces = false) (D : va_G) (cI cJ cL : ClassId) (sz : Nat) (x : Nat) (xp : Nat) (xt : Nat) (so : Nat) (g : Nat) (sc : Nat) (fo : Nat) (sof : Int32) (gp : Nat) (gpa : Nat) (gt : Nat) (gta : Nat) (ge : Nat) (gd : Nat) (gs : Nat) (gn : Nat) (gl : Nat) (om : Nat) (on : Nat) (cnt : Nat) (op : Nat → Int32) (ot : Nat → Int32) (fe : Nat → Int32) (fd : Nat → Int32) (fs : Nat → Int32) (fn : Nat → Int32) (fl : Nat → Int32) (i : Nat) (what : Int32) (ou : Nat) (fo9 : Nat → Int64) (hi : i < cnt) (hc : cnt ≤ 301) (hw0 : ¬ (0 ≤ what ∧ what ≤ 3)) :
    Met l yL_found wsL_found { frames := 7, cells := 1, slots := 6, locals := 112 } (va_Pc [.ref x, .int (nI i), .int what, .ref ou] (Wx D [(cI, .int), (cJ, .array .int), (cL, .long)] [(x, .inr (5, [.ref xp, .ref xt, .ref so, .ref g, .ref sc, .ref fo, .int sof])), (g, .inr (0, [.ref gp, .ref gt, .ref ge, .ref gd, .ref gs, .int (nI cnt), .ref gn, .ref gl])), (gp, .inr (4, [.ref gpa, .int (nI om)])), (gpa, .inl (cI, 150, .inl op)), (gt, .inr (4, [.ref gta, .int (nI on)])), (gta, .inl (cI, 300, .inl ot)), (ge, .inl (cI, 301, .inl fe)), (gd, .inl (cI, 301, .inl fd)), (gs, .inl (cI, 301, .inl fs)), (gn, .inl (cI, 151, .inl fn)), (gl, .inl (cI, 151, .inl fl)), (ou, .inl (cL, 1, .inr (.inl fo9)))] sz))
      (va_Qi (fun (r : Int32) (_ : Unit) => r = 2) (fun _ => Wa D [(cI, .int), (cJ, .array .int), (cL, .long)] (va_A [(x, .inr (5, [.ref xp, .ref xt, .ref so, .ref g, .ref sc, .ref fo, .int sof])), (g, .inr (0, [.ref gp, .ref gt, .ref ge, .ref gd, .ref gs, .int (nI cnt), .ref gn, .ref gl])), (gp, .inr (4, [.ref gpa, .int (nI om)])), (gpa, .inl (cI, 150, .inl op)), (gt, .inr (4, [.ref gta, .int (nI on)])), (gta, .inl (cI, 300, .inl ot)), (ge, .inl (cI, 301, .inl fe)), (gd, .inl (cI, 301, .inl fd)), (gs, .inl (cI, 301, .inl fs)), (gn, .inl (cI, 151, .inl fn)), (gl, .inl (cI, 151, .inl fl)), (ou, .inl (cL, 1, .inr (.inl fo9)))] sz) ([(x, .inr (5, [.ref xp, .ref xt, .ref so, .ref g, .ref sc, .ref fo, .int sof])), (g, .inr (0, [.ref gp, .ref gt, .ref ge, .ref gd, .ref gs, .int (nI cnt), .ref gn, .ref gl])), (gp, .inr (4, [.ref gpa, .int (nI om)])), (gpa, .inl (cI, 150, .inl op)), (gt, .inr (4, [.ref gta, .int (nI on)])), (gta, .inl (cI, 300, .inl ot)), (ge, .inl (cI, 301, .inl fe)), (gd, .inl (cI, 301, .inl fd)), (gs, .inl (cI, 301, .inl fs)), (gn, .inl (cI, 151, .inl fn)), (gl, .inl (cI, 151, .inl fl)), (ou, .inl (cL, 1, .inr (.inl fo9)))])) (va_A [(x, .inr (5, [.ref xp, .ref xt, .ref so, .ref g, .ref sc, .ref fo, .int sof])), (g, .inr (0, [.ref gp, .ref gt, .ref ge, .ref gd, .ref gs, .int (nI cnt), .ref gn, .ref gl])), (gp, .inr (4, [.ref gpa, .int (nI om)])), (gpa, .inl (cI, 150, .inl op)), (gt, .inr (4, [.ref gta, .int (nI on)])), (gta, .inl (cI, 300, .inl ot)), (ge, .inl (cI, 301, .inl fe)), (gd, .inl (cI, 301, .inl fd)), (gs, .inl (cI, 301, .inl fs)), (gn, .inl (cI, 151, .inl fn)), (gl, .inl (cI, 151, .inl fl)), (ou, .inl (cL, 1, .inr (.inl fo9)))] sz)) 1 6 (va_A [(x, .inr (5, [.ref xp, .ref xt, .ref so, .ref g, .ref sc, .ref fo, .int sof])), (g, .inr (0, [.ref gp, .ref gt, .ref ge, .ref gd, .ref gs, .int (nI cnt), .ref gn, .ref gl])), (gp, .inr (4, [.ref gpa, .int (nI om)])), (gpa, .inl (cI, 150, .inl op)), (gt, .inr (4, [.ref gta, .int (nI on)])), (gta, .inl (cI, 300, .inl ot)), (ge, .inl (cI, 301, .inl fe)), (gd, .inl (cI, 301, .inl fd)), (gs, .inl (cI, 301, .inl fs)), (gn, .inl (cI, 151, .inl fn)), (gl, .inl (cI, 151, .inl fl)), (ou, .inl (cL, 1, .inr (.inl fo9)))] sz) := by
  refine va_MetW (hh := [(0, 10, 13, 13), (0, 10, 17, 25)]) (cc := cL_found) (maxL := 5) (ret := (some .int)) (by decide) rfl ?_
  intro p e s m args below meth c s₁ B hml hv
  obtain ⟨rfl, ⟨hsz, hP, hK, hD0⟩, hE⟩ := hv
  have htab := vx_table (x := yL_found) B (atoms_spec (ws := wsL_found) B.pre _ List.mem_cons_self)
  have hx := B.exec
  have hb := B.bytes
  have hr := B.returns
  have hts := atoms_spec (ws := wsL_found) B.pre
  have hown : s.vm.findClass RL = some m.cls := findClass_of_methodNamed B.named
  have hlocks := B.notSynchronized
  subst hsz
  have hD := hD0.self (sz := s.heap.size)
  generalize hAe : va_A [(x, .inr (5, [.ref xp, .ref xt, .ref so, .ref g, .ref sc, .ref fo, .int sof])), (g, .inr (0, [.ref gp, .ref gt, .ref ge, .ref gd, .ref gs, .int (nI cnt), .ref gn, .ref gl])), (gp, .inr (4, [.ref gpa, .int (nI om)])), (gpa, .inl (cI, 150, .inl op)), (gt, .inr (4, [.ref gta, .int (nI on)])), (gta, .inl (cI, 300, .inl ot)), (ge, .inl (cI, 301, .inl fe)), (gd, .inl (cI, 301, .inl fd)), (gs, .inl (cI, 301, .inl fs)), (gn, .inl (cI, 151, .inl fn)), (gl, .inl (cI, 151, .inl fl)), (ou, .inl (cL, 1, .inr (.inl fo9)))] s.heap.size = A at hD hE ⊢
  have hA : ∀ q : Nat, s.heap.size ≤ q → A q := fun q h => by rw [← hAe]; exact Or.inr h
  have hl := lv_entry ([.ref x, .int (nI i), .int what, .ref ou]) (n := 5) (Nat.le_of_ble_eq_true rfl)
  rw [lg_entry_eq]
  generalize (lg_sl ([.ref x, .int (nI i), .int what, .ref ou]) ++ List.replicate (5 - (lg_sl ([.ref x, .int (nI i), .int what, .ref ou])).length) Slot.unset).toArray = ls at hl ⊢
  have hl : lv_has ls 5 [(0, .ref x), (1, .int (nI i)), (2, .int what), (3, .ref ou)] := hl
  refine hv_start (A := A) (ws := [(x, .inr (5, [.ref xp, .ref xt, .ref so, .ref g, .ref sc, .ref fo, .int sof])), (g, .inr (0, [.ref gp, .ref gt, .ref ge, .ref gd, .ref gs, .int (nI cnt), .ref gn, .ref gl])), (gp, .inr (4, [.ref gpa, .int (nI om)])), (gpa, .inl (cI, 150, .inl op)), (gt, .inr (4, [.ref gta, .int (nI on)])), (gta, .inl (cI, 300, .inl ot)), (ge, .inl (cI, 301, .inl fe)), (gd, .inl (cI, 301, .inl fd)), (gs, .inl (cI, 301, .inl fs)), (gn, .inl (cI, 151, .inl fn)), (gl, .inl (cI, 151, .inl fl)), (ou, .inl (cL, 1, .inr (.inl fo9)))]) hP (fun H locs hP hS => ?_)
  have w_0 := hts (.classLink RL 25 iae) (by decide +kernel)
  have w_1 := hts (.classLink RL 13 nse) (by decide +kernel)
  refine lv_aload_n hx hb dL_found_0 rfl (lv_at hl 3 rfl) ?_
  refine lv_iconst (v := 0) hx hb dL_found_1 (by decide) ?_
  refine lv_aload_n hx hb dL_found_2 rfl (lv_at hl 0 rfl) ?_
  refine lv_iload_n hx hb dL_found_3 rfl (lv_at hl 1 rfl) ?_
  refine lv_iload_n hx hb dL_found_4 rfl (lv_at hl 2 rfl) ?_
  have fr := fr_x (wc := [(x, .inr (5, [.ref xp, .ref xt, .ref so, .ref g, .ref sc, .ref fo, .int sof])), (g, .inr (0, [.ref gp, .ref gt, .ref ge, .ref gd, .ref gs, .int (nI cnt), .ref gn, .ref gl])), (gp, .inr (4, [.ref gpa, .int (nI om)])), (gpa, .inl (cI, 150, .inl op)), (gt, .inr (4, [.ref gta, .int (nI on)])), (gta, .inl (cI, 300, .inl ot)), (ge, .inl (cI, 301, .inl fe)), (gd, .inl (cI, 301, .inl fd)), (gs, .inl (cI, 301, .inl fs)), (gn, .inl (cI, 151, .inl fn)), (gl, .inl (cI, 151, .inl fl))]) (wr := [(ou, .inl (cL, 1, .inr (.inl fo9)))]) hP hD hS hA [0, 1, 2, 3, 4, 5, 6, 7, 8, 9, 10] [11] rfl rfl (by decide) (by decide) (by decide)
  refine cx_v (E0 := iae) (J := fun _ => [(x, .inr (5, [.ref xp, .ref xt, .ref so, .ref g, .ref sc, .ref fo, .int sof])), (g, .inr (0, [.ref gp, .ref gt, .ref ge, .ref gd, .ref gs, .int (nI cnt), .ref gn, .ref gl])), (gp, .inr (4, [.ref gpa, .int (nI om)])), (gpa, .inl (cI, 150, .inl op)), (gt, .inr (4, [.ref gta, .int (nI on)])), (gta, .inl (cI, 300, .inl ot)), (ge, .inl (cI, 301, .inl fe)), (gd, .inl (cI, 301, .inl fd)), (gs, .inl (cI, 301, .inl fs)), (gn, .inl (cI, 151, .inl fn)), (gl, .inl (cI, 151, .inl fl)), (ou, .inl (cL, 1, .inr (.inl fo9)))]) (As := [.int (nI i), .int what]) (rest := [.int 0, .ref ou]) (q0 := 0) (ci := 5) ⟨hx, hb, hml, hown, hts⟩ (c_X5_found_nw l htr D cI cJ cL H.size x xp xt so g sc fo sof gp gpa gt gta ge gd gs gn gl om on cnt op ot fe fd fs fn fl i what hi hc hw0) (cwV 2 hts gL_found_X5_found rfl rfl rfl (by decide +kernel) ⟨Nat.le_of_ble_eq_true rfl, Nat.le_of_ble_eq_true rfl⟩) hK fr.1 fr.2.1 fr.2.2.1 (fun H1 u hk h1 h2 => ⟨(fr.2.2.2 _ H1 hk h1 h2).1.sub [1, 2, 3, 4, 5, 6, 7, 8, 9, 10, 11, 0] rfl, (fr.2.2.2 _ H1 hk h1 h2).2.sub [1, 2, 3, 4, 5, 6, 7, 8, 9, 10, 11, 0] (by decide) rfl⟩) hS hE rfl rfl rfl rfl hl.1 rfl (Nat.le_of_ble_eq_true rfl) dL_found_5 ⟨Nat.le_of_ble_eq_true rfl, Nat.le_of_ble_eq_true rfl⟩ (fun ce q9 u9 H locs hw hP hD hS hce hcv hcl => ?_)
  refine vx_catch (own := RL) (name := iae) hown [⟨0, 10, 13, 13⟩] ⟨0, 10, 17, 25⟩ [] htab (fun z hz => by rw [List.mem_singleton.mp hz]; exact Or.inr ⟨(by decide), nse, w_1, hE.2.2.2.2.1⟩) (by decide) (by decide) w_0 (xK.at hE.2.2.2.2.2 (.castable iae iae) (by decide +kernel)) hce hcv hcl ?_
  refine W.eq (g2 := F0 m 17 ls [.ref q9]) rfl ?_
  refine lv_astore (lv' := [(4, .ref q9), (0, .ref x), (1, .int (nI i)), (2, .int what), (3, .ref ou)]) hx hb dL_found_17 hl (by decide) rfl (fun ls hl => ?_)
  refine lv_iconst (v := 2) hx hb dL_found_19 (by decide) ?_
  refine W.widen (k := 1) (n := 6) (by decide) (by decide) ?_
  exact fin_i () hx hb hr hlocks dL_found_20 hK hS hP hD rfl

set_option maxHeartbeats 4000000 in
set_option maxRecDepth 100000 in
theorem c_L_step_y (l : Launch) (D : va_G) (cI cJ cL : ClassId) (sz : Nat) (x : Nat) (xp : Nat) (xt : Nat) (so : Nat) (g : Nat) (sc : Nat) (fo : Nat) (sof : Int32) (gp : Nat) (gpa : Nat) (gt : Nat) (gta : Nat) (ge : Nat) (gd : Nat) (gs : Nat) (gn : Nat) (gl : Nat) (om : Nat) (on : Nat) (cnt : Nat) (op : Nat → Int32) (ot : Nat → Int32) (fe : Nat → Int32) (fd : Nat → Int32) (fs : Nat → Int32) (fn : Nat → Int32) (fl : Nat → Int32) (ss : Nat) (sr : Nat) (len : Nat) (vs : Nat → Int32) (rg : Nat → Option Nat) (LP : List Nat) (pl : Nat → Nat) (pr : Nat → Nat → Int32) (rM : Nat → Nat → Int32) (st : Nat) (en : Nat) (i : Nat) (kk : Nat) (L : Nat) (f9 : Nat → Int32) (ou : Nat) (fo9 : Nat → Int64) (hG : gr_ok rg LP pl pr 151 301 rM) (hom : om ≤ 150) (hon : on ≤ 300) (hen : en ≤ on) (hst : st ≤ en) (hic : i < cnt) (hcnt : cnt ≤ 301) (hfe : fe i = nI en) (hfs : fs i = nI st) (hcs : sof = nI i → px_sc op ot om st en len vs ∧ len ≤ 450) (hL : px_sc op ot om st en L f9) (hL4 : L ≤ 450) (hkk : kk < L) :
    Met l yL_step wsL_step { frames := 6, cells := 0, slots := 0, locals := 143 } (va_Pc [.ref x, .int (nI i), .int (nI kk), .ref ou] (Wd D [(cI, .int), (cJ, .array .int), (cL, .long)] ([(x, .inr (5, [.ref xp, .ref xt, .ref so, .ref g, .ref sc, .ref fo, .int sof])), (g, .inr (0, [.ref gp, .ref gt, .ref ge, .ref gd, .ref gs, .int (nI cnt), .ref gn, .ref gl])), (gp, .inr (4, [.ref gpa, .int (nI om)])), (gpa, .inl (cI, 150, .inl op)), (gt, .inr (4, [.ref gta, .int (nI on)])), (gta, .inl (cI, 300, .inl ot)), (ge, .inl (cI, 301, .inl fe)), (gd, .inl (cI, 301, .inl fd)), (gs, .inl (cI, 301, .inl fs)), (gn, .inl (cI, 151, .inl fn)), (gl, .inl (cI, 151, .inl fl)), (sc, .inr (3, [.ref ss, .int (nI len), .ref sr])), (ss, .inl (cI, 450, .inl vs)), (sr, .inl (cJ, 151, .inr (.inr (.inr (.inr rg))))), (ou, .inl (cL, 1, .inr (.inl fo9)))] ++ va_pl LP (gF cI pl pr)) sz))
      (va_Qi (fun (r : Int32) (u : Nat × (Nat → Int32) × (Nat → Nat → Int32) × (Nat → Nat → Int32)) => r = 0 ∧ px_sc op ot om st en u.1 u.2.1 ∧ u.1 ≤ 450 ∧ gr_ok rg LP pl u.2.2.1 151 301 u.2.2.2 ∧ ∀ z, (∀ i, i < 151 → rg i ≠ some z) → u.2.2.1 z = pr z) (fun u => Wa D [(cI, .int), (cJ, .array .int), (cL, .long)] (va_A ([(x, .inr (5, [.ref xp, .ref xt, .ref so, .ref g, .ref sc, .ref fo, .int sof])), (g, .inr (0, [.ref gp, .ref gt, .ref ge, .ref gd, .ref gs, .int (nI cnt), .ref gn, .ref gl])), (gp, .inr (4, [.ref gpa, .int (nI om)])), (gpa, .inl (cI, 150, .inl op)), (gt, .inr (4, [.ref gta, .int (nI on)])), (gta, .inl (cI, 300, .inl ot)), (ge, .inl (cI, 301, .inl fe)), (gd, .inl (cI, 301, .inl fd)), (gs, .inl (cI, 301, .inl fs)), (gn, .inl (cI, 151, .inl fn)), (gl, .inl (cI, 151, .inl fl)), (sc, .inr (3, [.ref ss, .int (nI len), .ref sr])), (ss, .inl (cI, 450, .inl vs)), (sr, .inl (cJ, 151, .inr (.inr (.inr (.inr rg))))), (ou, .inl (cL, 1, .inr (.inl fo9)))] ++ va_pl LP (gF cI pl pr)) sz) (([(x, .inr (5, [.ref xp, .ref xt, .ref so, .ref g, .ref sc, .ref fo, .int (nI i)])), (g, .inr (0, [.ref gp, .ref gt, .ref ge, .ref gd, .ref gs, .int (nI cnt), .ref gn, .ref gl])), (gp, .inr (4, [.ref gpa, .int (nI om)])), (gpa, .inl (cI, 150, .inl op)), (gt, .inr (4, [.ref gta, .int (nI on)])), (gta, .inl (cI, 300, .inl ot)), (ge, .inl (cI, 301, .inl fe)), (gd, .inl (cI, 301, .inl fd)), (gs, .inl (cI, 301, .inl fs)), (gn, .inl (cI, 151, .inl fn)), (gl, .inl (cI, 151, .inl fl)), (sc, .inr (3, [.ref ss, .int (nI u.1), .ref sr])), (ss, .inl (cI, 450, .inl u.2.1)), (sr, .inl (cJ, 151, .inr (.inr (.inr (.inr rg))))), (ou, .inl (cL, 1, .inr (.inl (vp_updL fo9 0 (f9 kk).toInt64))))] ++ va_pl LP (gF cI pl u.2.2.1)))) (va_A ([(x, .inr (5, [.ref xp, .ref xt, .ref so, .ref g, .ref sc, .ref fo, .int sof])), (g, .inr (0, [.ref gp, .ref gt, .ref ge, .ref gd, .ref gs, .int (nI cnt), .ref gn, .ref gl])), (gp, .inr (4, [.ref gpa, .int (nI om)])), (gpa, .inl (cI, 150, .inl op)), (gt, .inr (4, [.ref gta, .int (nI on)])), (gta, .inl (cI, 300, .inl ot)), (ge, .inl (cI, 301, .inl fe)), (gd, .inl (cI, 301, .inl fd)), (gs, .inl (cI, 301, .inl fs)), (gn, .inl (cI, 151, .inl fn)), (gl, .inl (cI, 151, .inl fl)), (sc, .inr (3, [.ref ss, .int (nI len), .ref sr])), (ss, .inl (cI, 450, .inl vs)), (sr, .inl (cJ, 151, .inr (.inr (.inr (.inr rg))))), (ou, .inl (cL, 1, .inr (.inl fo9)))] ++ va_pl LP (gF cI pl pr)) sz)) 0 0 (va_A ([(x, .inr (5, [.ref xp, .ref xt, .ref so, .ref g, .ref sc, .ref fo, .int sof])), (g, .inr (0, [.ref gp, .ref gt, .ref ge, .ref gd, .ref gs, .int (nI cnt), .ref gn, .ref gl])), (gp, .inr (4, [.ref gpa, .int (nI om)])), (gpa, .inl (cI, 150, .inl op)), (gt, .inr (4, [.ref gta, .int (nI on)])), (gta, .inl (cI, 300, .inl ot)), (ge, .inl (cI, 301, .inl fe)), (gd, .inl (cI, 301, .inl fd)), (gs, .inl (cI, 301, .inl fs)), (gn, .inl (cI, 151, .inl fn)), (gl, .inl (cI, 151, .inl fl)), (sc, .inr (3, [.ref ss, .int (nI len), .ref sr])), (ss, .inl (cI, 450, .inl vs)), (sr, .inl (cJ, 151, .inr (.inr (.inr (.inr rg))))), (ou, .inl (cL, 1, .inr (.inl fo9)))] ++ va_pl LP (gF cI pl pr)) sz) := by
  refine va_MetW (hh := [(0, 10, 13, 13)]) (cc := cL_step) (maxL := 5) (ret := (some .int)) (by decide) rfl ?_
  intro p e s m args below meth c s₁ B hml hv
  obtain ⟨rfl, hsz, hP, hK, hD0⟩ := hv
  have hx := B.exec
  have hb := B.bytes
  have hr := B.returns
  have hts := atoms_spec (ws := wsL_step) B.pre
  have hown : s.vm.findClass RL = some m.cls := findClass_of_methodNamed B.named
  have hlocks := B.notSynchronized
  subst hsz
  have hD := hD0.self (sz := s.heap.size)
  generalize hAe : va_A ([(x, .inr (5, [.ref xp, .ref xt, .ref so, .ref g, .ref sc, .ref fo, .int sof])), (g, .inr (0, [.ref gp, .ref gt, .ref ge, .ref gd, .ref gs, .int (nI cnt), .ref gn, .ref gl])), (gp, .inr (4, [.ref gpa, .int (nI om)])), (gpa, .inl (cI, 150, .inl op)), (gt, .inr (4, [.ref gta, .int (nI on)])), (gta, .inl (cI, 300, .inl ot)), (ge, .inl (cI, 301, .inl fe)), (gd, .inl (cI, 301, .inl fd)), (gs, .inl (cI, 301, .inl fs)), (gn, .inl (cI, 151, .inl fn)), (gl, .inl (cI, 151, .inl fl)), (sc, .inr (3, [.ref ss, .int (nI len), .ref sr])), (ss, .inl (cI, 450, .inl vs)), (sr, .inl (cJ, 151, .inr (.inr (.inr (.inr rg))))), (ou, .inl (cL, 1, .inr (.inl fo9)))] ++ va_pl LP (gF cI pl pr)) s.heap.size = A at hD ⊢
  have hA : ∀ q : Nat, s.heap.size ≤ q → A q := fun q h => by rw [← hAe]; exact Or.inr h
  have hl := lv_entry ([.ref x, .int (nI i), .int (nI kk), .ref ou]) (n := 5) (Nat.le_of_ble_eq_true rfl)
  rw [lg_entry_eq]
  generalize (lg_sl ([.ref x, .int (nI i), .int (nI kk), .ref ou]) ++ List.replicate (5 - (lg_sl ([.ref x, .int (nI i), .int (nI kk), .ref ou])).length) Slot.unset).toArray = ls at hl ⊢
  have hl : lv_has ls 5 [(0, .ref x), (1, .int (nI i)), (2, .int (nI kk)), (3, .ref ou)] := hl
  refine hv_start (A := A) (ws := ([(x, .inr (5, [.ref xp, .ref xt, .ref so, .ref g, .ref sc, .ref fo, .int sof])), (g, .inr (0, [.ref gp, .ref gt, .ref ge, .ref gd, .ref gs, .int (nI cnt), .ref gn, .ref gl])), (gp, .inr (4, [.ref gpa, .int (nI om)])), (gpa, .inl (cI, 150, .inl op)), (gt, .inr (4, [.ref gta, .int (nI on)])), (gta, .inl (cI, 300, .inl ot)), (ge, .inl (cI, 301, .inl fe)), (gd, .inl (cI, 301, .inl fd)), (gs, .inl (cI, 301, .inl fs)), (gn, .inl (cI, 151, .inl fn)), (gl, .inl (cI, 151, .inl fl)), (sc, .inr (3, [.ref ss, .int (nI len), .ref sr])), (ss, .inl (cI, 450, .inl vs)), (sr, .inl (cJ, 151, .inr (.inr (.inr (.inr rg))))), (ou, .inl (cL, 1, .inr (.inl fo9)))] ++ va_pl LP (gF cI pl pr))) hP (fun H locs hP hS => ?_)
  refine lv_aload_n hx hb dL_step_0 rfl (lv_at hl 3 rfl) ?_
  refine lv_iconst (v := 0) hx hb dL_step_1 (by decide) ?_
  refine lv_aload_n hx hb dL_step_2 rfl (lv_at hl 0 rfl) ?_
  refine lv_iload_n hx hb dL_step_3 rfl (lv_at hl 1 rfl) ?_
  refine lv_iload_n hx hb dL_step_4 rfl (lv_at hl 2 rfl) ?_
  have fr := fr_p (X := [(x, .inr (5, [.ref xp, .ref xt, .ref so, .ref g, .ref sc, .ref fo, .int sof])), (g, .inr (0, [.ref gp, .ref gt, .ref ge, .ref gd, .ref gs, .int (nI cnt), .ref gn, .ref gl])), (gp, .inr (4, [.ref gpa, .int (nI om)])), (gpa, .inl (cI, 150, .inl op)), (gt, .inr (4, [.ref gta, .int (nI on)])), (gta, .inl (cI, 300, .inl ot)), (ge, .inl (cI, 301, .inl fe)), (gd, .inl (cI, 301, .inl fd)), (gs, .inl (cI, 301, .inl fs)), (gn, .inl (cI, 151, .inl fn)), (gl, .inl (cI, 151, .inl fl)), (sc, .inr (3, [.ref ss, .int (nI len), .ref sr])), (ss, .inl (cI, 450, .inl vs)), (sr, .inl (cJ, 151, .inr (.inr (.inr (.inr rg))))), (ou, .inl (cL, 1, .inr (.inl fo9)))]) (cx := [(x, .inr (5, [.ref xp, .ref xt, .ref so, .ref g, .ref sc, .ref fo, .int sof])), (g, .inr (0, [.ref gp, .ref gt, .ref ge, .ref gd, .ref gs, .int (nI cnt), .ref gn, .ref gl])), (gp, .inr (4, [.ref gpa, .int (nI om)])), (gpa, .inl (cI, 150, .inl op)), (gt, .inr (4, [.ref gta, .int (nI on)])), (gta, .inl (cI, 300, .inl ot)), (ge, .inl (cI, 301, .inl fe)), (gd, .inl (cI, 301, .inl fd)), (gs, .inl (cI, 301, .inl fs)), (gn, .inl (cI, 151, .inl fn)), (gl, .inl (cI, 151, .inl fl)), (sc, .inr (3, [.ref ss, .int (nI len), .ref sr])), (ss, .inl (cI, 450, .inl vs)), (sr, .inl (cJ, 151, .inr (.inr (.inr (.inr rg)))))]) (wr := [(ou, .inl (cL, 1, .inr (.inl fo9)))]) (pl := va_pl LP (gF cI pl pr)) hP hD hS hA [0, 1, 2, 3, 4, 5, 6, 7, 8, 9, 10, 11, 12, 13] [14] rfl rfl (by decide) (by decide) (by decide)
  refine cv_i (J := fun u => ([(x, .inr (5, [.ref xp, .ref xt, .ref so, .ref g, .ref sc, .ref fo, .int (nI i)])), (g, .inr (0, [.ref gp, .ref gt, .ref ge, .ref gd, .ref gs, .int (nI cnt), .ref gn, .ref gl])), (gp, .inr (4, [.ref gpa, .int (nI om)])), (gpa, .inl (cI, 150, .inl op)), (gt, .inr (4, [.ref gta, .int (nI on)])), (gta, .inl (cI, 300, .inl ot)), (ge, .inl (cI, 301, .inl fe)), (gd, .inl (cI, 301, .inl fd)), (gs, .inl (cI, 301, .inl fs)), (gn, .inl (cI, 151, .inl fn)), (gl, .inl (cI, 151, .inl fl)), (sc, .inr (3, [.ref ss, .int (nI u.1), .ref sr])), (ss, .inl (cI, 450, .inl u.2.1)), (sr, .inl (cJ, 151, .inr (.inr (.inr (.inr rg))))), (ou, .inl (cL, 1, .inr (.inl fo9)))] ++ va_pl LP (gF cI pl u.2.2.1))) (As := [.int (nI i), .int (nI kk)]) (rest := [.int 0, .ref ou]) (q0 := 0) (ci := 5) ⟨hx, hb, hml, hown, hts⟩ (c_X5_step_y l D cI cJ cL H.size x xp xt so g sc fo sof gp gpa gt gta ge gd gs gn gl om on cnt op ot fe fd fs fn fl ss sr len vs rg LP pl pr rM st en i kk L f9 hG hom hon hen hst hic hcnt hfe hfs hcs hL hL4 hkk) (cwV 2 hts gL_step_X5_step rfl rfl rfl (by decide +kernel) ⟨Nat.le_of_ble_eq_true rfl, Nat.le_of_ble_eq_true rfl⟩) hK fr.1 fr.2.1 fr.2.2.1 (fun H1 u hk h1 h2 => ⟨(fr.2.2.2 _ _ H1 hk h1 h2).1.part [1, 2, 3, 4, 5, 6, 7, 8, 9, 10, 11, 12, 13, 14, 0] rfl, (fr.2.2.2 _ _ H1 hk h1 h2).2.part [1, 2, 3, 4, 5, 6, 7, 8, 9, 10, 11, 12, 13, 14, 0] (by decide) rfl⟩) hS rfl rfl rfl rfl hl.1 rfl (Nat.le_of_ble_eq_true rfl) dL_step_5 ⟨Nat.zero_le _, Nat.zero_le _⟩ (fun r_2 u_1 H locs hw hP hD hS => ?_)
  obtain ⟨hr9, hw9⟩ := hw
  refine lv_cv (y := f9 kk) hr9 ?_
  refine lv_i2l hx hb dL_step_8 rfl ?_
  refine va_lastN hx hb hK hP hD hS 14 2 rfl rfl (x := (f9 kk).toInt64) (by decide) (by decide) dL_step_9 (fun H locs hP hD hS => ?_)
  have hP : va_P D vwCl ([(x, .inr (5, [.ref xp, .ref xt, .ref so, .ref g, .ref sc, .ref fo, .int (nI i)])), (g, .inr (0, [.ref gp, .ref gt, .ref ge, .ref gd, .ref gs, .int (nI cnt), .ref gn, .ref gl])), (gp, .inr (4, [.ref gpa, .int (nI om)])), (gpa, .inl (cI, 150, .inl op)), (gt, .inr (4, [.ref gta, .int (nI on)])), (gta, .inl (cI, 300, .inl ot)), (ge, .inl (cI, 301, .inl fe)), (gd, .inl (cI, 301, .inl fd)), (gs, .inl (cI, 301, .inl fs)), (gn, .inl (cI, 151, .inl fn)), (gl, .inl (cI, 151, .inl fl)), (sc, .inr (3, [.ref ss, .int (nI u_1.1), .ref sr])), (ss, .inl (cI, 450, .inl u_1.2.1)), (sr, .inl (cJ, 151, .inr (.inr (.inr (.inr rg))))), (ou, .inl (cL, 1, .inr (.inl (vp_updL fo9 0 ((f9 kk).toInt64)))))] ++ va_pl LP (gF cI pl u_1.2.2.1)) H := hP
  have hD : va_D A ([(x, .inr (5, [.ref xp, .ref xt, .ref so, .ref g, .ref sc, .ref fo, .int (nI i)])), (g, .inr (0, [.ref gp, .ref gt, .ref ge, .ref gd, .ref gs, .int (nI cnt), .ref gn, .ref gl])), (gp, .inr (4, [.ref gpa, .int (nI om)])), (gpa, .inl (cI, 150, .inl op)), (gt, .inr (4, [.ref gta, .int (nI on)])), (gta, .inl (cI, 300, .inl ot)), (ge, .inl (cI, 301, .inl fe)), (gd, .inl (cI, 301, .inl fd)), (gs, .inl (cI, 301, .inl fs)), (gn, .inl (cI, 151, .inl fn)), (gl, .inl (cI, 151, .inl fl)), (sc, .inr (3, [.ref ss, .int (nI u_1.1), .ref sr])), (ss, .inl (cI, 450, .inl u_1.2.1)), (sr, .inl (cJ, 151, .inr (.inr (.inr (.inr rg))))), (ou, .inl (cL, 1, .inr (.inl (vp_updL fo9 0 ((f9 kk).toInt64)))))] ++ va_pl LP (gF cI pl u_1.2.2.1)) := hD
  refine lv_goto (tgt := 17) hx hb dL_step_10 (by decide) ?_
  refine lv_iconst (v := 0) hx hb dL_step_17 (by decide) ?_
  exact fin_i u_1 hx hb hr hlocks dL_step_18 hK hS hP hD ⟨rfl, hw9⟩

set_option maxHeartbeats 4000000 in
set_option maxRecDepth 100000 in
theorem c_L_step_nf (l : Launch) (htr : l.stackTraces = false) (D : va_G) (cI cJ cL : ClassId) (sz : Nat) (x : Nat) (xp : Nat) (xt : Nat) (so : Nat) (g : Nat) (sc : Nat) (fo : Nat) (sof : Int32) (gp : Nat) (gpa : Nat) (gt : Nat) (gta : Nat) (ge : Nat) (gd : Nat) (gs : Nat) (gn : Nat) (gl : Nat) (om : Nat) (on : Nat) (cnt : Nat) (op : Nat → Int32) (ot : Nat → Int32) (fe : Nat → Int32) (fd : Nat → Int32) (fs : Nat → Int32) (fn : Nat → Int32) (fl : Nat → Int32) (f : Int32) (k : Int32) (ou : Nat) (fo9 : Nat → Int64) (h0 : ¬ (0 ≤ f ∧ f < nI cnt)) :
    Met l yL_step wsL_step { frames := 7, cells := 1, slots := 6, locals := 112 } (va_Pc [.ref x, .int f, .int k, .ref ou] (Wx D [(cI, .int), (cJ, .array .int), (cL, .long)] [(x, .inr (5, [.ref xp, .ref xt, .ref so, .ref g, .ref sc, .ref fo, .int sof])), (g, .inr (0, [.ref gp, .ref gt, .ref ge, .ref gd, .ref gs, .int (nI cnt), .ref gn, .ref gl])), (gp, .inr (4, [.ref gpa, .int (nI om)])), (gpa, .inl (cI, 150, .inl op)), (gt, .inr (4, [.ref gta, .int (nI on)])), (gta, .inl (cI, 300, .inl ot)), (ge, .inl (cI, 301, .inl fe)), (gd, .inl (cI, 301, .inl fd)), (gs, .inl (cI, 301, .inl fs)), (gn, .inl (cI, 151, .inl fn)), (gl, .inl (cI, 151, .inl fl)), (ou, .inl (cL, 1, .inr (.inl fo9)))] sz))
      (va_Qi (fun (r : Int32) (_ : Unit) => r = 1) (fun _ => Wa D [(cI, .int), (cJ, .array .int), (cL, .long)] (va_A [(x, .inr (5, [.ref xp, .ref xt, .ref so, .ref g, .ref sc, .ref fo, .int sof])), (g, .inr (0, [.ref gp, .ref gt, .ref ge, .ref gd, .ref gs, .int (nI cnt), .ref gn, .ref gl])), (gp, .inr (4, [.ref gpa, .int (nI om)])), (gpa, .inl (cI, 150, .inl op)), (gt, .inr (4, [.ref gta, .int (nI on)])), (gta, .inl (cI, 300, .inl ot)), (ge, .inl (cI, 301, .inl fe)), (gd, .inl (cI, 301, .inl fd)), (gs, .inl (cI, 301, .inl fs)), (gn, .inl (cI, 151, .inl fn)), (gl, .inl (cI, 151, .inl fl)), (ou, .inl (cL, 1, .inr (.inl fo9)))] sz) ([(x, .inr (5, [.ref xp, .ref xt, .ref so, .ref g, .ref sc, .ref fo, .int sof])), (g, .inr (0, [.ref gp, .ref gt, .ref ge, .ref gd, .ref gs, .int (nI cnt), .ref gn, .ref gl])), (gp, .inr (4, [.ref gpa, .int (nI om)])), (gpa, .inl (cI, 150, .inl op)), (gt, .inr (4, [.ref gta, .int (nI on)])), (gta, .inl (cI, 300, .inl ot)), (ge, .inl (cI, 301, .inl fe)), (gd, .inl (cI, 301, .inl fd)), (gs, .inl (cI, 301, .inl fs)), (gn, .inl (cI, 151, .inl fn)), (gl, .inl (cI, 151, .inl fl)), (ou, .inl (cL, 1, .inr (.inl fo9)))])) (va_A [(x, .inr (5, [.ref xp, .ref xt, .ref so, .ref g, .ref sc, .ref fo, .int sof])), (g, .inr (0, [.ref gp, .ref gt, .ref ge, .ref gd, .ref gs, .int (nI cnt), .ref gn, .ref gl])), (gp, .inr (4, [.ref gpa, .int (nI om)])), (gpa, .inl (cI, 150, .inl op)), (gt, .inr (4, [.ref gta, .int (nI on)])), (gta, .inl (cI, 300, .inl ot)), (ge, .inl (cI, 301, .inl fe)), (gd, .inl (cI, 301, .inl fd)), (gs, .inl (cI, 301, .inl fs)), (gn, .inl (cI, 151, .inl fn)), (gl, .inl (cI, 151, .inl fl)), (ou, .inl (cL, 1, .inr (.inl fo9)))] sz)) 1 6 (va_A [(x, .inr (5, [.ref xp, .ref xt, .ref so, .ref g, .ref sc, .ref fo, .int sof])), (g, .inr (0, [.ref gp, .ref gt, .ref ge, .ref gd, .ref gs, .int (nI cnt), .ref gn, .ref gl])), (gp, .inr (4, [.ref gpa, .int (nI om)])), (gpa, .inl (cI, 150, .inl op)), (gt, .inr (4, [.ref gta, .int (nI on)])), (gta, .inl (cI, 300, .inl ot)), (ge, .inl (cI, 301, .inl fe)), (gd, .inl (cI, 301, .inl fd)), (gs, .inl (cI, 301, .inl fs)), (gn, .inl (cI, 151, .inl fn)), (gl, .inl (cI, 151, .inl fl)), (ou, .inl (cL, 1, .inr (.inl fo9)))] sz) := by
  refine va_MetW (hh := [(0, 10, 13, 13)]) (cc := cL_step) (maxL := 5) (ret := (some .int)) (by decide) rfl ?_
  intro p e s m args below meth c s₁ B hml hv
  obtain ⟨rfl, ⟨hsz, hP, hK, hD0⟩, hE⟩ := hv
  have htab := vx_table (x := yL_step) B (atoms_spec (ws := wsL_step) B.pre _ List.mem_cons_self)
  have hx := B.exec
  have hb := B.bytes
  have hr := B.returns
  have hts := atoms_spec (ws := wsL_step) B.pre
  have hown : s.vm.findClass RL = some m.cls := findClass_of_methodNamed B.named
  have hlocks := B.notSynchronized
  subst hsz
  have hD := hD0.self (sz := s.heap.size)
  generalize hAe : va_A [(x, .inr (5, [.ref xp, .ref xt, .ref so, .ref g, .ref sc, .ref fo, .int sof])), (g, .inr (0, [.ref gp, .ref gt, .ref ge, .ref gd, .ref gs, .int (nI cnt), .ref gn, .ref gl])), (gp, .inr (4, [.ref gpa, .int (nI om)])), (gpa, .inl (cI, 150, .inl op)), (gt, .inr (4, [.ref gta, .int (nI on)])), (gta, .inl (cI, 300, .inl ot)), (ge, .inl (cI, 301, .inl fe)), (gd, .inl (cI, 301, .inl fd)), (gs, .inl (cI, 301, .inl fs)), (gn, .inl (cI, 151, .inl fn)), (gl, .inl (cI, 151, .inl fl)), (ou, .inl (cL, 1, .inr (.inl fo9)))] s.heap.size = A at hD hE ⊢
  have hA : ∀ q : Nat, s.heap.size ≤ q → A q := fun q h => by rw [← hAe]; exact Or.inr h
  have hl := lv_entry ([.ref x, .int f, .int k, .ref ou]) (n := 5) (Nat.le_of_ble_eq_true rfl)
  rw [lg_entry_eq]
  generalize (lg_sl ([.ref x, .int f, .int k, .ref ou]) ++ List.replicate (5 - (lg_sl ([.ref x, .int f, .int k, .ref ou])).length) Slot.unset).toArray = ls at hl ⊢
  have hl : lv_has ls 5 [(0, .ref x), (1, .int f), (2, .int k), (3, .ref ou)] := hl
  refine hv_start (A := A) (ws := [(x, .inr (5, [.ref xp, .ref xt, .ref so, .ref g, .ref sc, .ref fo, .int sof])), (g, .inr (0, [.ref gp, .ref gt, .ref ge, .ref gd, .ref gs, .int (nI cnt), .ref gn, .ref gl])), (gp, .inr (4, [.ref gpa, .int (nI om)])), (gpa, .inl (cI, 150, .inl op)), (gt, .inr (4, [.ref gta, .int (nI on)])), (gta, .inl (cI, 300, .inl ot)), (ge, .inl (cI, 301, .inl fe)), (gd, .inl (cI, 301, .inl fd)), (gs, .inl (cI, 301, .inl fs)), (gn, .inl (cI, 151, .inl fn)), (gl, .inl (cI, 151, .inl fl)), (ou, .inl (cL, 1, .inr (.inl fo9)))]) hP (fun H locs hP hS => ?_)
  have w_0 := hts (.classLink RL 13 nse) (by decide +kernel)
  refine lv_aload_n hx hb dL_step_0 rfl (lv_at hl 3 rfl) ?_
  refine lv_iconst (v := 0) hx hb dL_step_1 (by decide) ?_
  refine lv_aload_n hx hb dL_step_2 rfl (lv_at hl 0 rfl) ?_
  refine lv_iload_n hx hb dL_step_3 rfl (lv_at hl 1 rfl) ?_
  refine lv_iload_n hx hb dL_step_4 rfl (lv_at hl 2 rfl) ?_
  have fr := fr_x (wc := [(x, .inr (5, [.ref xp, .ref xt, .ref so, .ref g, .ref sc, .ref fo, .int sof])), (g, .inr (0, [.ref gp, .ref gt, .ref ge, .ref gd, .ref gs, .int (nI cnt), .ref gn, .ref gl])), (gp, .inr (4, [.ref gpa, .int (nI om)])), (gpa, .inl (cI, 150, .inl op)), (gt, .inr (4, [.ref gta, .int (nI on)])), (gta, .inl (cI, 300, .inl ot)), (ge, .inl (cI, 301, .inl fe)), (gd, .inl (cI, 301, .inl fd)), (gs, .inl (cI, 301, .inl fs)), (gn, .inl (cI, 151, .inl fn)), (gl, .inl (cI, 151, .inl fl))]) (wr := [(ou, .inl (cL, 1, .inr (.inl fo9)))]) hP hD hS hA [0, 1, 2, 3, 4, 5, 6, 7, 8, 9, 10] [11] rfl rfl (by decide) (by decide) (by decide)
  refine cx_v (E0 := nse) (J := fun _ => [(x, .inr (5, [.ref xp, .ref xt, .ref so, .ref g, .ref sc, .ref fo, .int sof])), (g, .inr (0, [.ref gp, .ref gt, .ref ge, .ref gd, .ref gs, .int (nI cnt), .ref gn, .ref gl])), (gp, .inr (4, [.ref gpa, .int (nI om)])), (gpa, .inl (cI, 150, .inl op)), (gt, .inr (4, [.ref gta, .int (nI on)])), (gta, .inl (cI, 300, .inl ot)), (ge, .inl (cI, 301, .inl fe)), (gd, .inl (cI, 301, .inl fd)), (gs, .inl (cI, 301, .inl fs)), (gn, .inl (cI, 151, .inl fn)), (gl, .inl (cI, 151, .inl fl)), (ou, .inl (cL, 1, .inr (.inl fo9)))]) (As := [.int f, .int k]) (rest := [.int 0, .ref ou]) (q0 := 0) (ci := 5) ⟨hx, hb, hml, hown, hts⟩ (c_X5_step_nf l htr D cI cJ cL H.size x xp xt so g sc fo sof gp gpa gt gta ge gd gs gn gl om on cnt op ot fe fd fs fn fl f k h0) (cwV 2 hts gL_step_X5_step rfl rfl rfl (by decide +kernel) ⟨Nat.le_of_ble_eq_true rfl, Nat.le_of_ble_eq_true rfl⟩) hK fr.1 fr.2.1 fr.2.2.1 (fun H1 u hk h1 h2 => ⟨(fr.2.2.2 _ H1 hk h1 h2).1.sub [1, 2, 3, 4, 5, 6, 7, 8, 9, 10, 11, 0] rfl, (fr.2.2.2 _ H1 hk h1 h2).2.sub [1, 2, 3, 4, 5, 6, 7, 8, 9, 10, 11, 0] (by decide) rfl⟩) hS hE rfl rfl rfl rfl hl.1 rfl (Nat.le_of_ble_eq_true rfl) dL_step_5 ⟨Nat.le_of_ble_eq_true rfl, Nat.le_of_ble_eq_true rfl⟩ (fun ce q9 u9 H locs hw hP hD hS hce hcv hcl => ?_)
  refine vx_catch (own := RL) (name := nse) hown [] ⟨0, 10, 13, 13⟩ [] htab (fun z hz => absurd hz List.not_mem_nil) (by decide) (by decide) w_0 (xK.at hE.2.2.2.2.2 (.castable nse nse) (by decide +kernel)) hce hcv hcl ?_
  refine W.eq (g2 := F0 m 13 ls [.ref q9]) rfl ?_
  refine lv_astore (lv' := [(4, .ref q9), (0, .ref x), (1, .int f), (2, .int k), (3, .ref ou)]) hx hb dL_step_13 hl (by decide) rfl (fun ls hl => ?_)
  refine lv_iconst (v := 1) hx hb dL_step_15 (by decide) ?_
  refine W.widen (k := 1) (n := 6) (by decide) (by decide) ?_
  exact fin_i () hx hb hr hlocks dL_step_16 hK hS hP hD rfl

set_option maxHeartbeats 4000000 in
set_option maxRecDepth 100000 in
theorem c_L_step_nk (l : Launch) (htr : l.stackTraces = false) (D : va_G) (cI cJ cL : ClassId) (sz : Nat) (x : Nat) (xp : Nat) (xt : Nat) (so : Nat) (g : Nat) (sc : Nat) (fo : Nat) (sof : Int32) (gp : Nat) (gpa : Nat) (gt : Nat) (gta : Nat) (ge : Nat) (gd : Nat) (gs : Nat) (gn : Nat) (gl : Nat) (om : Nat) (on : Nat) (cnt : Nat) (op : Nat → Int32) (ot : Nat → Int32) (fe : Nat → Int32) (fd : Nat → Int32) (fs : Nat → Int32) (fn : Nat → Int32) (fl : Nat → Int32) (ss : Nat) (sr : Nat) (len : Nat) (vs : Nat → Int32) (rg : Nat → Option Nat) (LP : List Nat) (pl : Nat → Nat) (pr : Nat → Nat → Int32) (rM : Nat → Nat → Int32) (st : Nat) (en : Nat) (i : Nat) (k : Int32) (ou : Nat) (fo9 : Nat → Int64) (hG : gr_ok rg LP pl pr 151 301 rM) (hom : om ≤ 150) (hon : on ≤ 300) (hen : en ≤ on) (hst : st ≤ en) (hic : i < cnt) (hcnt : cnt ≤ 301) (hfe : fe i = nI en) (hfs : fs i = nI st) (hcs : sof = nI i → px_sc op ot om st en len vs ∧ len ≤ 450) (h0 : k < 0) :
    Met l yL_step wsL_step { frames := 7, cells := 1, slots := 6, locals := 143 } (va_Pc [.ref x, .int (nI i), .int k, .ref ou] (Wx D [(cI, .int), (cJ, .array .int), (cL, .long)] ([(x, .inr (5, [.ref xp, .ref xt, .ref so, .ref g, .ref sc, .ref fo, .int sof])), (g, .inr (0, [.ref gp, .ref gt, .ref ge, .ref gd, .ref gs, .int (nI cnt), .ref gn, .ref gl])), (gp, .inr (4, [.ref gpa, .int (nI om)])), (gpa, .inl (cI, 150, .inl op)), (gt, .inr (4, [.ref gta, .int (nI on)])), (gta, .inl (cI, 300, .inl ot)), (ge, .inl (cI, 301, .inl fe)), (gd, .inl (cI, 301, .inl fd)), (gs, .inl (cI, 301, .inl fs)), (gn, .inl (cI, 151, .inl fn)), (gl, .inl (cI, 151, .inl fl)), (sc, .inr (3, [.ref ss, .int (nI len), .ref sr])), (ss, .inl (cI, 450, .inl vs)), (sr, .inl (cJ, 151, .inr (.inr (.inr (.inr rg))))), (ou, .inl (cL, 1, .inr (.inl fo9)))] ++ va_pl LP (gF cI pl pr)) sz))
      (va_Qi (fun (r : Int32) (u : Nat × (Nat → Int32) × (Nat → Nat → Int32) × (Nat → Nat → Int32)) => r = 1 ∧ px_sc op ot om st en u.1 u.2.1 ∧ u.1 ≤ 450 ∧ gr_ok rg LP pl u.2.2.1 151 301 u.2.2.2 ∧ ∀ z, (∀ i, i < 151 → rg i ≠ some z) → u.2.2.1 z = pr z) (fun u => Wa D [(cI, .int), (cJ, .array .int), (cL, .long)] (va_A ([(x, .inr (5, [.ref xp, .ref xt, .ref so, .ref g, .ref sc, .ref fo, .int sof])), (g, .inr (0, [.ref gp, .ref gt, .ref ge, .ref gd, .ref gs, .int (nI cnt), .ref gn, .ref gl])), (gp, .inr (4, [.ref gpa, .int (nI om)])), (gpa, .inl (cI, 150, .inl op)), (gt, .inr (4, [.ref gta, .int (nI on)])), (gta, .inl (cI, 300, .inl ot)), (ge, .inl (cI, 301, .inl fe)), (gd, .inl (cI, 301, .inl fd)), (gs, .inl (cI, 301, .inl fs)), (gn, .inl (cI, 151, .inl fn)), (gl, .inl (cI, 151, .inl fl)), (sc, .inr (3, [.ref ss, .int (nI len), .ref sr])), (ss, .inl (cI, 450, .inl vs)), (sr, .inl (cJ, 151, .inr (.inr (.inr (.inr rg))))), (ou, .inl (cL, 1, .inr (.inl fo9)))] ++ va_pl LP (gF cI pl pr)) sz) (([(x, .inr (5, [.ref xp, .ref xt, .ref so, .ref g, .ref sc, .ref fo, .int (nI i)])), (g, .inr (0, [.ref gp, .ref gt, .ref ge, .ref gd, .ref gs, .int (nI cnt), .ref gn, .ref gl])), (gp, .inr (4, [.ref gpa, .int (nI om)])), (gpa, .inl (cI, 150, .inl op)), (gt, .inr (4, [.ref gta, .int (nI on)])), (gta, .inl (cI, 300, .inl ot)), (ge, .inl (cI, 301, .inl fe)), (gd, .inl (cI, 301, .inl fd)), (gs, .inl (cI, 301, .inl fs)), (gn, .inl (cI, 151, .inl fn)), (gl, .inl (cI, 151, .inl fl)), (sc, .inr (3, [.ref ss, .int (nI u.1), .ref sr])), (ss, .inl (cI, 450, .inl u.2.1)), (sr, .inl (cJ, 151, .inr (.inr (.inr (.inr rg))))), (ou, .inl (cL, 1, .inr (.inl fo9)))] ++ va_pl LP (gF cI pl u.2.2.1)))) (va_A ([(x, .inr (5, [.ref xp, .ref xt, .ref so, .ref g, .ref sc, .ref fo, .int sof])), (g, .inr (0, [.ref gp, .ref gt, .ref ge, .ref gd, .ref gs, .int (nI cnt), .ref gn, .ref gl])), (gp, .inr (4, [.ref gpa, .int (nI om)])), (gpa, .inl (cI, 150, .inl op)), (gt, .inr (4, [.ref gta, .int (nI on)])), (gta, .inl (cI, 300, .inl ot)), (ge, .inl (cI, 301, .inl fe)), (gd, .inl (cI, 301, .inl fd)), (gs, .inl (cI, 301, .inl fs)), (gn, .inl (cI, 151, .inl fn)), (gl, .inl (cI, 151, .inl fl)), (sc, .inr (3, [.ref ss, .int (nI len), .ref sr])), (ss, .inl (cI, 450, .inl vs)), (sr, .inl (cJ, 151, .inr (.inr (.inr (.inr rg))))), (ou, .inl (cL, 1, .inr (.inl fo9)))] ++ va_pl LP (gF cI pl pr)) sz)) 1 6 (va_A ([(x, .inr (5, [.ref xp, .ref xt, .ref so, .ref g, .ref sc, .ref fo, .int sof])), (g, .inr (0, [.ref gp, .ref gt, .ref ge, .ref gd, .ref gs, .int (nI cnt), .ref gn, .ref gl])), (gp, .inr (4, [.ref gpa, .int (nI om)])), (gpa, .inl (cI, 150, .inl op)), (gt, .inr (4, [.ref gta, .int (nI on)])), (gta, .inl (cI, 300, .inl ot)), (ge, .inl (cI, 301, .inl fe)), (gd, .inl (cI, 301, .inl fd)), (gs, .inl (cI, 301, .inl fs)), (gn, .inl (cI, 151, .inl fn)), (gl, .inl (cI, 151, .inl fl)), (sc, .inr (3, [.ref ss, .int (nI len), .ref sr])), (ss, .inl (cI, 450, .inl vs)), (sr, .inl (cJ, 151, .inr (.inr (.inr (.inr rg))))), (ou, .inl (cL, 1, .inr (.inl fo9)))] ++ va_pl LP (gF cI pl pr)) sz) := by
  refine va_MetW (hh := [(0, 10, 13, 13)]) (cc := cL_step) (maxL := 5) (ret := (some .int)) (by decide) rfl ?_
  intro p e s m args below meth c s₁ B hml hv
  obtain ⟨rfl, ⟨hsz, hP, hK, hD0⟩, hE⟩ := hv
  have htab := vx_table (x := yL_step) B (atoms_spec (ws := wsL_step) B.pre _ List.mem_cons_self)
  have hx := B.exec
  have hb := B.bytes
  have hr := B.returns
  have hts := atoms_spec (ws := wsL_step) B.pre
  have hown : s.vm.findClass RL = some m.cls := findClass_of_methodNamed B.named
  have hlocks := B.notSynchronized
  subst hsz
  have hD := hD0.self (sz := s.heap.size)
  generalize hAe : va_A ([(x, .inr (5, [.ref xp, .ref xt, .ref so, .ref g, .ref sc, .ref fo, .int sof])), (g, .inr (0, [.ref gp, .ref gt, .ref ge, .ref gd, .ref gs, .int (nI cnt), .ref gn, .ref gl])), (gp, .inr (4, [.ref gpa, .int (nI om)])), (gpa, .inl (cI, 150, .inl op)), (gt, .inr (4, [.ref gta, .int (nI on)])), (gta, .inl (cI, 300, .inl ot)), (ge, .inl (cI, 301, .inl fe)), (gd, .inl (cI, 301, .inl fd)), (gs, .inl (cI, 301, .inl fs)), (gn, .inl (cI, 151, .inl fn)), (gl, .inl (cI, 151, .inl fl)), (sc, .inr (3, [.ref ss, .int (nI len), .ref sr])), (ss, .inl (cI, 450, .inl vs)), (sr, .inl (cJ, 151, .inr (.inr (.inr (.inr rg))))), (ou, .inl (cL, 1, .inr (.inl fo9)))] ++ va_pl LP (gF cI pl pr)) s.heap.size = A at hD hE ⊢
  have hA : ∀ q : Nat, s.heap.size ≤ q → A q := fun q h => by rw [← hAe]; exact Or.inr h
  have hl := lv_entry ([.ref x, .int (nI i), .int k, .ref ou]) (n := 5) (Nat.le_of_ble_eq_true rfl)
  rw [lg_entry_eq]
  generalize (lg_sl ([.ref x, .int (nI i), .int k, .ref ou]) ++ List.replicate (5 - (lg_sl ([.ref x, .int (nI i), .int k, .ref ou])).length) Slot.unset).toArray = ls at hl ⊢
  have hl : lv_has ls 5 [(0, .ref x), (1, .int (nI i)), (2, .int k), (3, .ref ou)] := hl
  refine hv_start (A := A) (ws := ([(x, .inr (5, [.ref xp, .ref xt, .ref so, .ref g, .ref sc, .ref fo, .int sof])), (g, .inr (0, [.ref gp, .ref gt, .ref ge, .ref gd, .ref gs, .int (nI cnt), .ref gn, .ref gl])), (gp, .inr (4, [.ref gpa, .int (nI om)])), (gpa, .inl (cI, 150, .inl op)), (gt, .inr (4, [.ref gta, .int (nI on)])), (gta, .inl (cI, 300, .inl ot)), (ge, .inl (cI, 301, .inl fe)), (gd, .inl (cI, 301, .inl fd)), (gs, .inl (cI, 301, .inl fs)), (gn, .inl (cI, 151, .inl fn)), (gl, .inl (cI, 151, .inl fl)), (sc, .inr (3, [.ref ss, .int (nI len), .ref sr])), (ss, .inl (cI, 450, .inl vs)), (sr, .inl (cJ, 151, .inr (.inr (.inr (.inr rg))))), (ou, .inl (cL, 1, .inr (.inl fo9)))] ++ va_pl LP (gF cI pl pr))) hP (fun H locs hP hS => ?_)
  have w_0 := hts (.classLink RL 13 nse) (by decide +kernel)
  refine lv_aload_n hx hb dL_step_0 rfl (lv_at hl 3 rfl) ?_
  refine lv_iconst (v := 0) hx hb dL_step_1 (by decide) ?_
  refine lv_aload_n hx hb dL_step_2 rfl (lv_at hl 0 rfl) ?_
  refine lv_iload_n hx hb dL_step_3 rfl (lv_at hl 1 rfl) ?_
  refine lv_iload_n hx hb dL_step_4 rfl (lv_at hl 2 rfl) ?_
  have fr := fr_p (X := [(x, .inr (5, [.ref xp, .ref xt, .ref so, .ref g, .ref sc, .ref fo, .int sof])), (g, .inr (0, [.ref gp, .ref gt, .ref ge, .ref gd, .ref gs, .int (nI cnt), .ref gn, .ref gl])), (gp, .inr (4, [.ref gpa, .int (nI om)])), (gpa, .inl (cI, 150, .inl op)), (gt, .inr (4, [.ref gta, .int (nI on)])), (gta, .inl (cI, 300, .inl ot)), (ge, .inl (cI, 301, .inl fe)), (gd, .inl (cI, 301, .inl fd)), (gs, .inl (cI, 301, .inl fs)), (gn, .inl (cI, 151, .inl fn)), (gl, .inl (cI, 151, .inl fl)), (sc, .inr (3, [.ref ss, .int (nI len), .ref sr])), (ss, .inl (cI, 450, .inl vs)), (sr, .inl (cJ, 151, .inr (.inr (.inr (.inr rg))))), (ou, .inl (cL, 1, .inr (.inl fo9)))]) (cx := [(x, .inr (5, [.ref xp, .ref xt, .ref so, .ref g, .ref sc, .ref fo, .int sof])), (g, .inr (0, [.ref gp, .ref gt, .ref ge, .ref gd, .ref gs, .int (nI cnt), .ref gn, .ref gl])), (gp, .inr (4, [.ref gpa, .int (nI om)])), (gpa, .inl (cI, 150, .inl op)), (gt, .inr (4, [.ref gta, .int (nI on)])), (gta, .inl (cI, 300, .inl ot)), (ge, .inl (cI, 301, .inl fe)), (gd, .inl (cI, 301, .inl fd)), (gs, .inl (cI, 301, .inl fs)), (gn, .inl (cI, 151, .inl fn)), (gl, .inl (cI, 151, .inl fl)), (sc, .inr (3, [.ref ss, .int (nI len), .ref sr])), (ss, .inl (cI, 450, .inl vs)), (sr, .inl (cJ, 151, .inr (.inr (.inr (.inr rg)))))]) (wr := [(ou, .inl (cL, 1, .inr (.inl fo9)))]) (pl := va_pl LP (gF cI pl pr)) hP hD hS hA [0, 1, 2, 3, 4, 5, 6, 7, 8, 9, 10, 11, 12, 13] [14] rfl rfl (by decide) (by decide) (by decide)
  refine cx_v (E0 := nse) (J := fun u => ([(x, .inr (5, [.ref xp, .ref xt, .ref so, .ref g, .ref sc, .ref fo, .int (nI i)])), (g, .inr (0, [.ref gp, .ref gt, .ref ge, .ref gd, .ref gs, .int (nI cnt), .ref gn, .ref gl])), (gp, .inr (4, [.ref gpa, .int (nI om)])), (gpa, .inl (cI, 150, .inl op)), (gt, .inr (4, [.ref gta, .int (nI on)])), (gta, .inl (cI, 300, .inl ot)), (ge, .inl (cI, 301, .inl fe)), (gd, .inl (cI, 301, .inl fd)), (gs, .inl (cI, 301, .inl fs)), (gn, .inl (cI, 151, .inl fn)), (gl, .inl (cI, 151, .inl fl)), (sc, .inr (3, [.ref ss, .int (nI u.1), .ref sr])), (ss, .inl (cI, 450, .inl u.2.1)), (sr, .inl (cJ, 151, .inr (.inr (.inr (.inr rg))))), (ou, .inl (cL, 1, .inr (.inl fo9)))] ++ va_pl LP (gF cI pl u.2.2.1))) (As := [.int (nI i), .int k]) (rest := [.int 0, .ref ou]) (q0 := 0) (ci := 5) ⟨hx, hb, hml, hown, hts⟩ (c_X5_step_nk l htr D cI cJ cL H.size x xp xt so g sc fo sof gp gpa gt gta ge gd gs gn gl om on cnt op ot fe fd fs fn fl ss sr len vs rg LP pl pr rM st en i k hG hom hon hen hst hic hcnt hfe hfs hcs h0) (cwV 2 hts gL_step_X5_step rfl rfl rfl (by decide +kernel) ⟨Nat.le_of_ble_eq_true rfl, Nat.le_of_ble_eq_true rfl⟩) hK fr.1 fr.2.1 fr.2.2.1 (fun H1 u hk h1 h2 => ⟨(fr.2.2.2 _ _ H1 hk h1 h2).1.part [1, 2, 3, 4, 5, 6, 7, 8, 9, 10, 11, 12, 13, 14, 0] rfl, (fr.2.2.2 _ _ H1 hk h1 h2).2.part [1, 2, 3, 4, 5, 6, 7, 8, 9, 10, 11, 12, 13, 14, 0] (by decide) rfl⟩) hS hE rfl rfl rfl rfl hl.1 rfl (Nat.le_of_ble_eq_true rfl) dL_step_5 ⟨Nat.le_of_ble_eq_true rfl, Nat.le_of_ble_eq_true rfl⟩ (fun ce q9 u9 H locs hw hP hD hS hce hcv hcl => ?_)
  refine vx_catch (own := RL) (name := nse) hown [] ⟨0, 10, 13, 13⟩ [] htab (fun z hz => absurd hz List.not_mem_nil) (by decide) (by decide) w_0 (xK.at hE.2.2.2.2.2 (.castable nse nse) (by decide +kernel)) hce hcv hcl ?_
  refine W.eq (g2 := F0 m 13 ls [.ref q9]) rfl ?_
  refine lv_astore (lv' := [(4, .ref q9), (0, .ref x), (1, .int (nI i)), (2, .int k), (3, .ref ou)]) hx hb dL_step_13 hl (by decide) rfl (fun ls hl => ?_)
  refine lv_iconst (v := 1) hx hb dL_step_15 (by decide) ?_
  refine W.widen (k := 1) (n := 6) (by decide) (by decide) ?_
  exact fin_i u9 hx hb hr hlocks dL_step_16 hK hS hP hD ⟨rfl, hw⟩

set_option maxHeartbeats 4000000 in
set_option maxRecDepth 100000 in
theorem c_L_step_nl (l : Launch) (htr : l.stackTraces = false) (D : va_G) (cI cJ cL : ClassId) (sz : Nat) (x : Nat) (xp : Nat) (xt : Nat) (so : Nat) (g : Nat) (sc : Nat) (fo : Nat) (sof : Int32) (gp : Nat) (gpa : Nat) (gt : Nat) (gta : Nat) (ge : Nat) (gd : Nat) (gs : Nat) (gn : Nat) (gl : Nat) (om : Nat) (on : Nat) (cnt : Nat) (op : Nat → Int32) (ot : Nat → Int32) (fe : Nat → Int32) (fd : Nat → Int32) (fs : Nat → Int32) (fn : Nat → Int32) (fl : Nat → Int32) (ss : Nat) (sr : Nat) (len : Nat) (vs : Nat → Int32) (rg : Nat → Option Nat) (LP : List Nat) (pl : Nat → Nat) (pr : Nat → Nat → Int32) (rM : Nat → Nat → Int32) (st : Nat) (en : Nat) (i : Nat) (kk : Nat) (L : Nat) (f9 : Nat → Int32) (ou : Nat) (fo9 : Nat → Int64) (hG : gr_ok rg LP pl pr 151 301 rM) (hom : om ≤ 150) (hon : on ≤ 300) (hen : en ≤ on) (hst : st ≤ en) (hic : i < cnt) (hcnt : cnt ≤ 301) (hfe : fe i = nI en) (hfs : fs i = nI st) (hcs : sof = nI i → px_sc op ot om st en len vs ∧ len ≤ 450) (hL : px_sc op ot om st en L f9) (hL4 : L ≤ 450) (hkk : L ≤ kk) (hkk2 : kk < 2147483648) :
    Met l yL_step wsL_step { frames := 7, cells := 1, slots := 6, locals := 143 } (va_Pc [.ref x, .int (nI i), .int (nI kk), .ref ou] (Wx D [(cI, .int), (cJ, .array .int), (cL, .long)] ([(x, .inr (5, [.ref xp, .ref xt, .ref so, .ref g, .ref sc, .ref fo, .int sof])), (g, .inr (0, [.ref gp, .ref gt, .ref ge, .ref gd, .ref gs, .int (nI cnt), .ref gn, .ref gl])), (gp, .inr (4, [.ref gpa, .int (nI om)])), (gpa, .inl (cI, 150, .inl op)), (gt, .inr (4, [.ref gta, .int (nI on)])), (gta, .inl (cI, 300, .inl ot)), (ge, .inl (cI, 301, .inl fe)), (gd, .inl (cI, 301, .inl fd)), (gs, .inl (cI, 301, .inl fs)), (gn, .inl (cI, 151, .inl fn)), (gl, .inl (cI, 151, .inl fl)), (sc, .inr (3, [.ref ss, .int (nI len), .ref sr])), (ss, .inl (cI, 450, .inl vs)), (sr, .inl (cJ, 151, .inr (.inr (.inr (.inr rg))))), (ou, .inl (cL, 1, .inr (.inl fo9)))] ++ va_pl LP (gF cI pl pr)) sz))
      (va_Qi (fun (r : Int32) (u : Nat × (Nat → Int32) × (Nat → Nat → Int32) × (Nat → Nat → Int32)) => r = 1 ∧ px_sc op ot om st en u.1 u.2.1 ∧ u.1 ≤ 450 ∧ gr_ok rg LP pl u.2.2.1 151 301 u.2.2.2 ∧ ∀ z, (∀ i, i < 151 → rg i ≠ some z) → u.2.2.1 z = pr z) (fun u => Wa D [(cI, .int), (cJ, .array .int), (cL, .long)] (va_A ([(x, .inr (5, [.ref xp, .ref xt, .ref so, .ref g, .ref sc, .ref fo, .int sof])), (g, .inr (0, [.ref gp, .ref gt, .ref ge, .ref gd, .ref gs, .int (nI cnt), .ref gn, .ref gl])), (gp, .inr (4, [.ref gpa, .int (nI om)])), (gpa, .inl (cI, 150, .inl op)), (gt, .inr (4, [.ref gta, .int (nI on)])), (gta, .inl (cI, 300, .inl ot)), (ge, .inl (cI, 301, .inl fe)), (gd, .inl (cI, 301, .inl fd)), (gs, .inl (cI, 301, .inl fs)), (gn, .inl (cI, 151, .inl fn)), (gl, .inl (cI, 151, .inl fl)), (sc, .inr (3, [.ref ss, .int (nI len), .ref sr])), (ss, .inl (cI, 450, .inl vs)), (sr, .inl (cJ, 151, .inr (.inr (.inr (.inr rg))))), (ou, .inl (cL, 1, .inr (.inl fo9)))] ++ va_pl LP (gF cI pl pr)) sz) (([(x, .inr (5, [.ref xp, .ref xt, .ref so, .ref g, .ref sc, .ref fo, .int (nI i)])), (g, .inr (0, [.ref gp, .ref gt, .ref ge, .ref gd, .ref gs, .int (nI cnt), .ref gn, .ref gl])), (gp, .inr (4, [.ref gpa, .int (nI om)])), (gpa, .inl (cI, 150, .inl op)), (gt, .inr (4, [.ref gta, .int (nI on)])), (gta, .inl (cI, 300, .inl ot)), (ge, .inl (cI, 301, .inl fe)), (gd, .inl (cI, 301, .inl fd)), (gs, .inl (cI, 301, .inl fs)), (gn, .inl (cI, 151, .inl fn)), (gl, .inl (cI, 151, .inl fl)), (sc, .inr (3, [.ref ss, .int (nI u.1), .ref sr])), (ss, .inl (cI, 450, .inl u.2.1)), (sr, .inl (cJ, 151, .inr (.inr (.inr (.inr rg))))), (ou, .inl (cL, 1, .inr (.inl fo9)))] ++ va_pl LP (gF cI pl u.2.2.1)))) (va_A ([(x, .inr (5, [.ref xp, .ref xt, .ref so, .ref g, .ref sc, .ref fo, .int sof])), (g, .inr (0, [.ref gp, .ref gt, .ref ge, .ref gd, .ref gs, .int (nI cnt), .ref gn, .ref gl])), (gp, .inr (4, [.ref gpa, .int (nI om)])), (gpa, .inl (cI, 150, .inl op)), (gt, .inr (4, [.ref gta, .int (nI on)])), (gta, .inl (cI, 300, .inl ot)), (ge, .inl (cI, 301, .inl fe)), (gd, .inl (cI, 301, .inl fd)), (gs, .inl (cI, 301, .inl fs)), (gn, .inl (cI, 151, .inl fn)), (gl, .inl (cI, 151, .inl fl)), (sc, .inr (3, [.ref ss, .int (nI len), .ref sr])), (ss, .inl (cI, 450, .inl vs)), (sr, .inl (cJ, 151, .inr (.inr (.inr (.inr rg))))), (ou, .inl (cL, 1, .inr (.inl fo9)))] ++ va_pl LP (gF cI pl pr)) sz)) 1 6 (va_A ([(x, .inr (5, [.ref xp, .ref xt, .ref so, .ref g, .ref sc, .ref fo, .int sof])), (g, .inr (0, [.ref gp, .ref gt, .ref ge, .ref gd, .ref gs, .int (nI cnt), .ref gn, .ref gl])), (gp, .inr (4, [.ref gpa, .int (nI om)])), (gpa, .inl (cI, 150, .inl op)), (gt, .inr (4, [.ref gta, .int (nI on)])), (gta, .inl (cI, 300, .inl ot)), (ge, .inl (cI, 301, .inl fe)), (gd, .inl (cI, 301, .inl fd)), (gs, .inl (cI, 301, .inl fs)), (gn, .inl (cI, 151, .inl fn)), (gl, .inl (cI, 151, .inl fl)), (sc, .inr (3, [.ref ss, .int (nI len), .ref sr])), (ss, .inl (cI, 450, .inl vs)), (sr, .inl (cJ, 151, .inr (.inr (.inr (.inr rg))))), (ou, .inl (cL, 1, .inr (.inl fo9)))] ++ va_pl LP (gF cI pl pr)) sz) := by
  refine va_MetW (hh := [(0, 10, 13, 13)]) (cc := cL_step) (maxL := 5) (ret := (some .int)) (by decide) rfl ?_
  intro p e s m args below meth c s₁ B hml hv
  obtain ⟨rfl, ⟨hsz, hP, hK, hD0⟩, hE⟩ := hv
  have htab := vx_table (x := yL_step) B (atoms_spec (ws := wsL_step) B.pre _ List.mem_cons_self)
  have hx := B.exec
  have hb := B.bytes
  have hr := B.returns
  have hts := atoms_spec (ws := wsL_step) B.pre
  have hown : s.vm.findClass RL = some m.cls := findClass_of_methodNamed B.named
  have hlocks := B.notSynchronized
  subst hsz
  have hD := hD0.self (sz := s.heap.size)
  generalize hAe : va_A ([(x, .inr (5, [.ref xp, .ref xt, .ref so, .ref g, .ref sc, .ref fo, .int sof])), (g, .inr (0, [.ref gp, .ref gt, .ref ge, .ref gd, .ref gs, .int (nI cnt), .ref gn, .ref gl])), (gp, .inr (4, [.ref gpa, .int (nI om)])), (gpa, .inl (cI, 150, .inl op)), (gt, .inr (4, [.ref gta, .int (nI on)])), (gta, .inl (cI, 300, .inl ot)), (ge, .inl (cI, 301, .inl fe)), (gd, .inl (cI, 301, .inl fd)), (gs, .inl (cI, 301, .inl fs)), (gn, .inl (cI, 151, .inl fn)), (gl, .inl (cI, 151, .inl fl)), (sc, .inr (3, [.ref ss, .int (nI len), .ref sr])), (ss, .inl (cI, 450, .inl vs)), (sr, .inl (cJ, 151, .inr (.inr (.inr (.inr rg))))), (ou, .inl (cL, 1, .inr (.inl fo9)))] ++ va_pl LP (gF cI pl pr)) s.heap.size = A at hD hE ⊢
  have hA : ∀ q : Nat, s.heap.size ≤ q → A q := fun q h => by rw [← hAe]; exact Or.inr h
  have hl := lv_entry ([.ref x, .int (nI i), .int (nI kk), .ref ou]) (n := 5) (Nat.le_of_ble_eq_true rfl)
  rw [lg_entry_eq]
  generalize (lg_sl ([.ref x, .int (nI i), .int (nI kk), .ref ou]) ++ List.replicate (5 - (lg_sl ([.ref x, .int (nI i), .int (nI kk), .ref ou])).length) Slot.unset).toArray = ls at hl ⊢
  have hl : lv_has ls 5 [(0, .ref x), (1, .int (nI i)), (2, .int (nI kk)), (3, .ref ou)] := hl
  refine hv_start (A := A) (ws := ([(x, .inr (5, [.ref xp, .ref xt, .ref so, .ref g, .ref sc, .ref fo, .int sof])), (g, .inr (0, [.ref gp, .ref gt, .ref ge, .ref gd, .ref gs, .int (nI cnt), .ref gn, .ref gl])), (gp, .inr (4, [.ref gpa, .int (nI om)])), (gpa, .inl (cI, 150, .inl op)), (gt, .inr (4, [.ref gta, .int (nI on)])), (gta, .inl (cI, 300, .inl ot)), (ge, .inl (cI, 301, .inl fe)), (gd, .inl (cI, 301, .inl fd)), (gs, .inl (cI, 301, .inl fs)), (gn, .inl (cI, 151, .inl fn)), (gl, .inl (cI, 151, .inl fl)), (sc, .inr (3, [.ref ss, .int (nI len), .ref sr])), (ss, .inl (cI, 450, .inl vs)), (sr, .inl (cJ, 151, .inr (.inr (.inr (.inr rg))))), (ou, .inl (cL, 1, .inr (.inl fo9)))] ++ va_pl LP (gF cI pl pr))) hP (fun H locs hP hS => ?_)
  have w_0 := hts (.classLink RL 13 nse) (by decide +kernel)
  refine lv_aload_n hx hb dL_step_0 rfl (lv_at hl 3 rfl) ?_
  refine lv_iconst (v := 0) hx hb dL_step_1 (by decide) ?_
  refine lv_aload_n hx hb dL_step_2 rfl (lv_at hl 0 rfl) ?_
  refine lv_iload_n hx hb dL_step_3 rfl (lv_at hl 1 rfl) ?_
  refine lv_iload_n hx hb dL_step_4 rfl (lv_at hl 2 rfl) ?_
  have fr := fr_p (X := [(x, .inr (5, [.ref xp, .ref xt, .ref so, .ref g, .ref sc, .ref fo, .int sof])), (g, .inr (0, [.ref gp, .ref gt, .ref ge, .ref gd, .ref gs, .int (nI cnt), .ref gn, .ref gl])), (gp, .inr (4, [.ref gpa, .int (nI om)])), (gpa, .inl (cI, 150, .inl op)), (gt, .inr (4, [.ref gta, .int (nI on)])), (gta, .inl (cI, 300, .inl ot)), (ge, .inl (cI, 301, .inl fe)), (gd, .inl (cI, 301, .inl fd)), (gs, .inl (cI, 301, .inl fs)), (gn, .inl (cI, 151, .inl fn)), (gl, .inl (cI, 151, .inl fl)), (sc, .inr (3, [.ref ss, .int (nI len), .ref sr])), (ss, .inl (cI, 450, .inl vs)), (sr, .inl (cJ, 151, .inr (.inr (.inr (.inr rg))))), (ou, .inl (cL, 1, .inr (.inl fo9)))]) (cx := [(x, .inr (5, [.ref xp, .ref xt, .ref so, .ref g, .ref sc, .ref fo, .int sof])), (g, .inr (0, [.ref gp, .ref gt, .ref ge, .ref gd, .ref gs, .int (nI cnt), .ref gn, .ref gl])), (gp, .inr (4, [.ref gpa, .int (nI om)])), (gpa, .inl (cI, 150, .inl op)), (gt, .inr (4, [.ref gta, .int (nI on)])), (gta, .inl (cI, 300, .inl ot)), (ge, .inl (cI, 301, .inl fe)), (gd, .inl (cI, 301, .inl fd)), (gs, .inl (cI, 301, .inl fs)), (gn, .inl (cI, 151, .inl fn)), (gl, .inl (cI, 151, .inl fl)), (sc, .inr (3, [.ref ss, .int (nI len), .ref sr])), (ss, .inl (cI, 450, .inl vs)), (sr, .inl (cJ, 151, .inr (.inr (.inr (.inr rg)))))]) (wr := [(ou, .inl (cL, 1, .inr (.inl fo9)))]) (pl := va_pl LP (gF cI pl pr)) hP hD hS hA [0, 1, 2, 3, 4, 5, 6, 7, 8, 9, 10, 11, 12, 13] [14] rfl rfl (by decide) (by decide) (by decide)
  refine cx_v (E0 := nse) (J := fun u => ([(x, .inr (5, [.ref xp, .ref xt, .ref so, .ref g, .ref sc, .ref fo, .int (nI i)])), (g, .inr (0, [.ref gp, .ref gt, .ref ge, .ref gd, .ref gs, .int (nI cnt), .ref gn, .ref gl])), (gp, .inr (4, [.ref gpa, .int (nI om)])), (gpa, .inl (cI, 150, .inl op)), (gt, .inr (4, [.ref gta, .int (nI on)])), (gta, .inl (cI, 300, .inl ot)), (ge, .inl (cI, 301, .inl fe)), (gd, .inl (cI, 301, .inl fd)), (gs, .inl (cI, 301, .inl fs)), (gn, .inl (cI, 151, .inl fn)), (gl, .inl (cI, 151, .inl fl)), (sc, .inr (3, [.ref ss, .int (nI u.1), .ref sr])), (ss, .inl (cI, 450, .inl u.2.1)), (sr, .inl (cJ, 151, .inr (.inr (.inr (.inr rg))))), (ou, .inl (cL, 1, .inr (.inl fo9)))] ++ va_pl LP (gF cI pl u.2.2.1))) (As := [.int (nI i), .int (nI kk)]) (rest := [.int 0, .ref ou]) (q0 := 0) (ci := 5) ⟨hx, hb, hml, hown, hts⟩ (c_X5_step_nl l htr D cI cJ cL H.size x xp xt so g sc fo sof gp gpa gt gta ge gd gs gn gl om on cnt op ot fe fd fs fn fl ss sr len vs rg LP pl pr rM st en i kk L f9 hG hom hon hen hst hic hcnt hfe hfs hcs hL hL4 hkk hkk2) (cwV 2 hts gL_step_X5_step rfl rfl rfl (by decide +kernel) ⟨Nat.le_of_ble_eq_true rfl, Nat.le_of_ble_eq_true rfl⟩) hK fr.1 fr.2.1 fr.2.2.1 (fun H1 u hk h1 h2 => ⟨(fr.2.2.2 _ _ H1 hk h1 h2).1.part [1, 2, 3, 4, 5, 6, 7, 8, 9, 10, 11, 12, 13, 14, 0] rfl, (fr.2.2.2 _ _ H1 hk h1 h2).2.part [1, 2, 3, 4, 5, 6, 7, 8, 9, 10, 11, 12, 13, 14, 0] (by decide) rfl⟩) hS hE rfl rfl rfl rfl hl.1 rfl (Nat.le_of_ble_eq_true rfl) dL_step_5 ⟨Nat.le_of_ble_eq_true rfl, Nat.le_of_ble_eq_true rfl⟩ (fun ce q9 u9 H locs hw hP hD hS hce hcv hcl => ?_)
  refine vx_catch (own := RL) (name := nse) hown [] ⟨0, 10, 13, 13⟩ [] htab (fun z hz => absurd hz List.not_mem_nil) (by decide) (by decide) w_0 (xK.at hE.2.2.2.2.2 (.castable nse nse) (by decide +kernel)) hce hcv hcl ?_
  refine W.eq (g2 := F0 m 13 ls [.ref q9]) rfl ?_
  refine lv_astore (lv' := [(4, .ref q9), (0, .ref x), (1, .int (nI i)), (2, .int (nI kk)), (3, .ref ou)]) hx hb dL_step_13 hl (by decide) rfl (fun ls hl => ?_)
  refine lv_iconst (v := 1) hx hb dL_step_15 (by decide) ?_
  refine W.widen (k := 1) (n := 6) (by decide) (by decide) ?_
  exact fin_i u9 hx hb hr hlocks dL_step_16 hK hS hP hD ⟨rfl, hw⟩

set_option maxHeartbeats 4000000 in
set_option maxRecDepth 100000 in
theorem c_L_score_y (l : Launch) (D : va_G) (cI cJ cL : ClassId) (sz : Nat) (x : Nat) (xp : Nat) (xt : Nat) (so : Nat) (g : Nat) (sc : Nat) (fo : Nat) (sof : Int32) (sg : Nat) (oo : Int32) (xx : Int32) (tg : Nat → Option Nat) (LP : List Nat) (pl : Nat → Nat) (pr : Nat → Nat → Int32) (tb : Nat → Nat → Int32) (i : Nat) (j : Nat) (v : Int32) (ou : Nat) (fo9 : Nat → Int64) (hG : gr_ok tg LP pl pr 8 8 tb) (hi : i < 8) (hj : j < 8) (h0 : -1000 ≤ v ∧ v ≤ 1000) :
    Met l yL_score wsL_score { frames := 2, cells := 0, slots := 0, locals := 47 } (va_Pc [.ref x, .int (nI i), .int (nI j), .int v, .ref ou] (Wd D [(cI, .int), (cJ, .array .int), (cL, .long)] ([(x, .inr (5, [.ref xp, .ref xt, .ref so, .ref g, .ref sc, .ref fo, .int sof])), (so, .inr (2, [.ref sg, .int oo, .int xx])), (sg, .inl (cJ, 8, .inr (.inr (.inr (.inr tg))))), (ou, .inl (cL, 1, .inr (.inl fo9)))] ++ va_pl LP (gF cI pl pr)) sz))
      (va_Qi (fun (r : Int32) (u : Nat → Nat → Int32) => r = 0 ∧ gr_ok tg LP pl u 8 8 (gUp (gUp tb i j v) j i v) ∧ ∀ z, (∀ i, i < 8 → tg i ≠ some z) → u z = pr z) (fun u => Wa D [(cI, .int), (cJ, .array .int), (cL, .long)] (va_A ([(x, .inr (5, [.ref xp, .ref xt, .ref so, .ref g, .ref sc, .ref fo, .int sof])), (so, .inr (2, [.ref sg, .int oo, .int xx])), (sg, .inl (cJ, 8, .inr (.inr (.inr (.inr tg))))), (ou, .inl (cL, 1, .inr (.inl fo9)))] ++ va_pl LP (gF cI pl pr)) sz) (([(x, .inr (5, [.ref xp, .ref xt, .ref so, .ref g, .ref sc, .ref fo, .int sof])), (so, .inr (2, [.ref sg, .int oo, .int xx])), (sg, .inl (cJ, 8, .inr (.inr (.inr (.inr tg))))), (ou, .inl (cL, 1, .inr (.inl (vp_updL fo9 0 (tb i j).toInt64))))] ++ va_pl LP (gF cI pl u)))) (va_A ([(x, .inr (5, [.ref xp, .ref xt, .ref so, .ref g, .ref sc, .ref fo, .int sof])), (so, .inr (2, [.ref sg, .int oo, .int xx])), (sg, .inl (cJ, 8, .inr (.inr (.inr (.inr tg))))), (ou, .inl (cL, 1, .inr (.inl fo9)))] ++ va_pl LP (gF cI pl pr)) sz)) 0 0 (va_A ([(x, .inr (5, [.ref xp, .ref xt, .ref so, .ref g, .ref sc, .ref fo, .int sof])), (so, .inr (2, [.ref sg, .int oo, .int xx])), (sg, .inl (cJ, 8, .inr (.inr (.inr (.inr tg))))), (ou, .inl (cL, 1, .inr (.inl fo9)))] ++ va_pl LP (gF cI pl pr)) sz) := by
  refine va_MetW (hh := [(0, 12, 15, 13), (0, 12, 19, 25)]) (cc := cL_score) (maxL := 6) (ret := (some .int)) (by decide) rfl ?_
  intro p e s m args below meth c s₁ B hml hv
  obtain ⟨rfl, hsz, hP, hK, hD0⟩ := hv
  have hx := B.exec
  have hb := B.bytes
  have hr := B.returns
  have hts := atoms_spec (ws := wsL_score) B.pre
  have hown : s.vm.findClass RL = some m.cls := findClass_of_methodNamed B.named
  have hlocks := B.notSynchronized
  subst hsz
  have hD := hD0.self (sz := s.heap.size)
  generalize hAe : va_A ([(x, .inr (5, [.ref xp, .ref xt, .ref so, .ref g, .ref sc, .ref fo, .int sof])), (so, .inr (2, [.ref sg, .int oo, .int xx])), (sg, .inl (cJ, 8, .inr (.inr (.inr (.inr tg))))), (ou, .inl (cL, 1, .inr (.inl fo9)))] ++ va_pl LP (gF cI pl pr)) s.heap.size = A at hD ⊢
  have hA : ∀ q : Nat, s.heap.size ≤ q → A q := fun q h => by rw [← hAe]; exact Or.inr h
  have hl := lv_entry ([.ref x, .int (nI i), .int (nI j), .int v, .ref ou]) (n := 6) (Nat.le_of_ble_eq_true rfl)
  rw [lg_entry_eq]
  generalize (lg_sl ([.ref x, .int (nI i), .int (nI j), .int v, .ref ou]) ++ List.replicate (6 - (lg_sl ([.ref x, .int (nI i), .int (nI j), .int v, .ref ou])).length) Slot.unset).toArray = ls at hl ⊢
  have hl : lv_has ls 6 [(0, .ref x), (1, .int (nI i)), (2, .int (nI j)), (3, .int v), (4, .ref ou)] := hl
  refine hv_start (A := A) (ws := ([(x, .inr (5, [.ref xp, .ref xt, .ref so, .ref g, .ref sc, .ref fo, .int sof])), (so, .inr (2, [.ref sg, .int oo, .int xx])), (sg, .inl (cJ, 8, .inr (.inr (.inr (.inr tg))))), (ou, .inl (cL, 1, .inr (.inl fo9)))] ++ va_pl LP (gF cI pl pr))) hP (fun H locs hP hS => ?_)
  refine lv_aload hx hb dL_score_0 (lv_at hl 4 rfl) ?_
  refine lv_iconst (v := 0) hx hb dL_score_2 (by decide) ?_
  refine lv_aload_n hx hb dL_score_3 rfl (lv_at hl 0 rfl) ?_
  refine lv_iload_n hx hb dL_score_4 rfl (lv_at hl 1 rfl) ?_
  refine lv_iload_n hx hb dL_score_5 rfl (lv_at hl 2 rfl) ?_
  refine lv_iload_n hx hb dL_score_6 rfl (lv_at hl 3 rfl) ?_
  have fr := fr_p (X := [(x, .inr (5, [.ref xp, .ref xt, .ref so, .ref g, .ref sc, .ref fo, .int sof])), (so, .inr (2, [.ref sg, .int oo, .int xx])), (sg, .inl (cJ, 8, .inr (.inr (.inr (.inr tg))))), (ou, .inl (cL, 1, .inr (.inl fo9)))]) (cx := [(x, .inr (5, [.ref xp, .ref xt, .ref so, .ref g, .ref sc, .ref fo, .int sof])), (so, .inr (2, [.ref sg, .int oo, .int xx])), (sg, .inl (cJ, 8, .inr (.inr (.inr (.inr tg)))))]) (wr := [(ou, .inl (cL, 1, .inr (.inl fo9)))]) (pl := va_pl LP (gF cI pl pr)) hP hD hS hA [0, 1, 2] [3] rfl rfl (by decide) (by decide) (by decide)
  refine cv_i (J := fun u => ([(x, .inr (5, [.ref xp, .ref xt, .ref so, .ref g, .ref sc, .ref fo, .int sof])), (so, .inr (2, [.ref sg, .int oo, .int xx])), (sg, .inl (cJ, 8, .inr (.inr (.inr (.inr tg))))), (ou, .inl (cL, 1, .inr (.inl fo9)))] ++ va_pl LP (gF cI pl u))) (As := [.int (nI i), .int (nI j), .int v]) (rest := [.int 0, .ref ou]) (q0 := 0) (ci := 5) ⟨hx, hb, hml, hown, hts⟩ (c_X5_score_y l D cI cJ cL H.size x xp xt so g sc fo sof sg oo xx tg LP pl pr tb i j v hG hi hj h0) (cwV 3 hts gL_score_X5_score rfl rfl rfl (by decide +kernel) ⟨Nat.le_of_ble_eq_true rfl, Nat.le_of_ble_eq_true rfl⟩) hK fr.1 fr.2.1 fr.2.2.1 (fun H1 u hk h1 h2 => ⟨(fr.2.2.2 _ _ H1 hk h1 h2).1.part [1, 2, 3, 0] rfl, (fr.2.2.2 _ _ H1 hk h1 h2).2.part [1, 2, 3, 0] (by decide) rfl⟩) hS rfl rfl rfl rfl hl.1 rfl (Nat.le_of_ble_eq_true rfl) dL_score_7 ⟨Nat.zero_le _, Nat.zero_le _⟩ (fun r_2 u_1 H locs hw hP hD hS => ?_)
  obtain ⟨hr9, hw9⟩ := hw
  refine lv_cv (y := tb i j) hr9 ?_
  refine lv_i2l hx hb dL_score_10 rfl ?_
  refine va_lastN hx hb hK hP hD hS 3 2 rfl rfl (x := (tb i j).toInt64) (by decide) (by decide) dL_score_11 (fun H locs hP hD hS => ?_)
  have hP : va_P D vwCl ([(x, .inr (5, [.ref xp, .ref xt, .ref so, .ref g, .ref sc, .ref fo, .int sof])), (so, .inr (2, [.ref sg, .int oo, .int xx])), (sg, .inl (cJ, 8, .inr (.inr (.inr (.inr tg))))), (ou, .inl (cL, 1, .inr (.inl (vp_updL fo9 0 ((tb i j).toInt64)))))] ++ va_pl LP (gF cI pl u_1)) H := hP
  have hD : va_D A ([(x, .inr (5, [.ref xp, .ref xt, .ref so, .ref g, .ref sc, .ref fo, .int sof])), (so, .inr (2, [.ref sg, .int oo, .int xx])), (sg, .inl (cJ, 8, .inr (.inr (.inr (.inr tg))))), (ou, .inl (cL, 1, .inr (.inl (vp_updL fo9 0 ((tb i j).toInt64)))))] ++ va_pl LP (gF cI pl u_1)) := hD
  refine lv_goto (tgt := 23) hx hb dL_score_12 (by decide) ?_
  refine lv_iconst (v := 0) hx hb dL_score_23 (by decide) ?_
  exact fin_i u_1 hx hb hr hlocks dL_score_24 hK hS hP hD ⟨rfl, hw9⟩

set_option maxHeartbeats 4000000 in
set_option maxRecDepth 100000 in
theorem c_L_score_nk (l : Launch) (htr : l.stackTraces = false) (D : va_G) (cI cJ cL : ClassId) (sz : Nat) (x : Nat) (xp : Nat) (xt : Nat) (so : Nat) (g : Nat) (sc : Nat) (fo : Nat) (sof : Int32) (one : Int32) (other : Int32) (v : Int32) (ou : Nat) (fo9 : Nat → Int64) (h0 : ¬ (0 ≤ one ∧ one < 8 ∧ 0 ≤ other ∧ other < 8)) :
    Met l yL_score wsL_score { frames := 7, cells := 1, slots := 6, locals := 114 } (va_Pc [.ref x, .int one, .int other, .int v, .ref ou] (Wx D [(cI, .int), (cJ, .array .int), (cL, .long)] [(x, .inr (5, [.ref xp, .ref xt, .ref so, .ref g, .ref sc, .ref fo, .int sof])), (ou, .inl (cL, 1, .inr (.inl fo9)))] sz))
      (va_Qi (fun (r : Int32) (_ : Unit) => r = 1) (fun _ => Wa D [(cI, .int), (cJ, .array .int), (cL, .long)] (va_A [(x, .inr (5, [.ref xp, .ref xt, .ref so, .ref g, .ref sc, .ref fo, .int sof])), (ou, .inl (cL, 1, .inr (.inl fo9)))] sz) ([(x, .inr (5, [.ref xp, .ref xt, .ref so, .ref g, .ref sc, .ref fo, .int sof])), (ou, .inl (cL, 1, .inr (.inl fo9)))])) (va_A [(x, .inr (5, [.ref xp, .ref xt, .ref so, .ref g, .ref sc, .ref fo, .int sof])), (ou, .inl (cL, 1, .inr (.inl fo9)))] sz)) 1 6 (va_A [(x, .inr (5, [.ref xp, .ref xt, .ref so, .ref g, .ref sc, .ref fo, .int sof])), (ou, .inl (cL, 1, .inr (.inl fo9)))] sz) := by
  refine va_MetW (hh := [(0, 12, 15, 13), (0, 12, 19, 25)]) (cc := cL_score) (maxL := 6) (ret := (some .int)) (by decide) rfl ?_
  intro p e s m args below meth c s₁ B hml hv
  obtain ⟨rfl, ⟨hsz, hP, hK, hD0⟩, hE⟩ := hv
  have htab := vx_table (x := yL_score) B (atoms_spec (ws := wsL_score) B.pre _ List.mem_cons_self)
  have hx := B.exec
  have hb := B.bytes
  have hr := B.returns
  have hts := atoms_spec (ws := wsL_score) B.pre
  have hown : s.vm.findClass RL = some m.cls := findClass_of_methodNamed B.named
  have hlocks := B.notSynchronized
  subst hsz
  have hD := hD0.self (sz := s.heap.size)
  generalize hAe : va_A [(x, .inr (5, [.ref xp, .ref xt, .ref so, .ref g, .ref sc, .ref fo, .int sof])), (ou, .inl (cL, 1, .inr (.inl fo9)))] s.heap.size = A at hD hE ⊢
  have hA : ∀ q : Nat, s.heap.size ≤ q → A q := fun q h => by rw [← hAe]; exact Or.inr h
  have hl := lv_entry ([.ref x, .int one, .int other, .int v, .ref ou]) (n := 6) (Nat.le_of_ble_eq_true rfl)
  rw [lg_entry_eq]
  generalize (lg_sl ([.ref x, .int one, .int other, .int v, .ref ou]) ++ List.replicate (6 - (lg_sl ([.ref x, .int one, .int other, .int v, .ref ou])).length) Slot.unset).toArray = ls at hl ⊢
  have hl : lv_has ls 6 [(0, .ref x), (1, .int one), (2, .int other), (3, .int v), (4, .ref ou)] := hl
  refine hv_start (A := A) (ws := [(x, .inr (5, [.ref xp, .ref xt, .ref so, .ref g, .ref sc, .ref fo, .int sof])), (ou, .inl (cL, 1, .inr (.inl fo9)))]) hP (fun H locs hP hS => ?_)
  have w_0 := hts (.classLink RL 13 nse) (by decide +kernel)
  refine lv_aload hx hb dL_score_0 (lv_at hl 4 rfl) ?_
  refine lv_iconst (v := 0) hx hb dL_score_2 (by decide) ?_
  refine lv_aload_n hx hb dL_score_3 rfl (lv_at hl 0 rfl) ?_
  refine lv_iload_n hx hb dL_score_4 rfl (lv_at hl 1 rfl) ?_
  refine lv_iload_n hx hb dL_score_5 rfl (lv_at hl 2 rfl) ?_
  refine lv_iload_n hx hb dL_score_6 rfl (lv_at hl 3 rfl) ?_
  have fr := fr_x (wc := [(x, .inr (5, [.ref xp, .ref xt, .ref so, .ref g, .ref sc, .ref fo, .int sof]))]) (wr := [(ou, .inl (cL, 1, .inr (.inl fo9)))]) hP hD hS hA [0] [1] rfl rfl (by decide) (by decide) (by decide)
  refine cx_v (E0 := nse) (J := fun _ => [(x, .inr (5, [.ref xp, .ref xt, .ref so, .ref g, .ref sc, .ref fo, .int sof])), (ou, .inl (cL, 1, .inr (.inl fo9)))]) (As := [.int one, .int other, .int v]) (rest := [.int 0, .ref ou]) (q0 := 0) (ci := 5) ⟨hx, hb, hml, hown, hts⟩ (c_X5_score_nk l htr D cI cJ cL H.size x xp xt so g sc fo sof one other v h0) (cwV 3 hts gL_score_X5_score rfl rfl rfl (by decide +kernel) ⟨Nat.le_of_ble_eq_true rfl, Nat.le_of_ble_eq_true rfl⟩) hK fr.1 fr.2.1 fr.2.2.1 (fun H1 u hk h1 h2 => ⟨(fr.2.2.2 _ H1 hk h1 h2).1.sub [1, 0] rfl, (fr.2.2.2 _ H1 hk h1 h2).2.sub [1, 0] (by decide) rfl⟩) hS hE rfl rfl rfl rfl hl.1 rfl (Nat.le_of_ble_eq_true rfl) dL_score_7 ⟨Nat.le_of_ble_eq_true rfl, Nat.le_of_ble_eq_true rfl⟩ (fun ce q9 u9 H locs hw hP hD hS hce hcv hcl => ?_)
  refine vx_catch (own := RL) (name := nse) hown [] ⟨0, 12, 15, 13⟩ [⟨0, 12, 19, 25⟩] htab (fun z hz => absurd hz List.not_mem_nil) (by decide) (by decide) w_0 (xK.at hE.2.2.2.2.2 (.castable nse nse) (by decide +kernel)) hce hcv hcl ?_
  refine W.eq (g2 := F0 m 15 ls [.ref q9]) rfl ?_
  refine lv_astore (lv' := [(5, .ref q9), (0, .ref x), (1, .int one), (2, .int other), (3, .int v), (4, .ref ou)]) hx hb dL_score_15 hl (by decide) rfl (fun ls hl => ?_)
  refine lv_iconst (v := 1) hx hb dL_score_17 (by decide) ?_
  refine W.widen (k := 1) (n := 6) (by decide) (by decide) ?_
  exact fin_i () hx hb hr hlocks dL_score_18 hK hS hP hD rfl

set_option maxHeartbeats 4000000 in
set_option maxRecDepth 100000 in
theorem c_L_score_nv (l : Launch) (htr : l.stackTraces = false) (D : va_G) (cI cJ cL : ClassId) (sz : Nat) (x : Nat) (xp : Nat) (xt : Nat) (so : Nat) (g : Nat) (sc : Nat) (fo : Nat) (sof : Int32) (i : Nat) (j : Nat) (v : Int32) (ou : Nat) (fo9 : Nat → Int64) (hi : i < 8) (hj : j < 8) (h0 : ¬ (-1000 ≤ v ∧ v ≤ 1000)) :
    Met l yL_score wsL_score { frames := 7, cells := 1, slots := 6, locals := 114 } (va_Pc [.ref x, .int (nI i), .int (nI j), .int v, .ref ou] (Wx D [(cI, .int), (cJ, .array .int), (cL, .long)] [(x, .inr (5, [.ref xp, .ref xt, .ref so, .ref g, .ref sc, .ref fo, .int sof])), (ou, .inl (cL, 1, .inr (.inl fo9)))] sz))
      (va_Qi (fun (r : Int32) (_ : Unit) => r = 2) (fun _ => Wa D [(cI, .int), (cJ, .array .int), (cL, .long)] (va_A [(x, .inr (5, [.ref xp, .ref xt, .ref so, .ref g, .ref sc, .ref fo, .int sof])), (ou, .inl (cL, 1, .inr (.inl fo9)))] sz) ([(x, .inr (5, [.ref xp, .ref xt, .ref so, .ref g, .ref sc, .ref fo, .int sof])), (ou, .inl (cL, 1, .inr (.inl fo9)))])) (va_A [(x, .inr (5, [.ref xp, .ref xt, .ref so, .ref g, .ref sc, .ref fo, .int sof])), (ou, .inl (cL, 1, .inr (.inl fo9)))] sz)) 1 6 (va_A [(x, .inr (5, [.ref xp, .ref xt, .ref so, .ref g, .ref sc, .ref fo, .int sof])), (ou, .inl (cL, 1, .inr (.inl fo9)))] sz) := by
  refine va_MetW (hh := [(0, 12, 15, 13), (0, 12, 19, 25)]) (cc := cL_score) (maxL := 6) (ret := (some .int)) (by decide) rfl ?_
  intro p e s m args below meth c s₁ B hml hv
  obtain ⟨rfl, ⟨hsz, hP, hK, hD0⟩, hE⟩ := hv
  have htab := vx_table (x := yL_score) B (atoms_spec (ws := wsL_score) B.pre _ List.mem_cons_self)
  have hx := B.exec
  have hb := B.bytes
  have hr := B.returns
  have hts := atoms_spec (ws := wsL_score) B.pre
  have hown : s.vm.findClass RL = some m.cls := findClass_of_methodNamed B.named
  have hlocks := B.notSynchronized
  subst hsz
  have hD := hD0.self (sz := s.heap.size)
  generalize hAe : va_A [(x, .inr (5, [.ref xp, .ref xt, .ref so, .ref g, .ref sc, .ref fo, .int sof])), (ou, .inl (cL, 1, .inr (.inl fo9)))] s.heap.size = A at hD hE ⊢
  have hA : ∀ q : Nat, s.heap.size ≤ q → A q := fun q h => by rw [← hAe]; exact Or.inr h
  have hl := lv_entry ([.ref x, .int (nI i), .int (nI j), .int v, .ref ou]) (n := 6) (Nat.le_of_ble_eq_true rfl)
  rw [lg_entry_eq]
  generalize (lg_sl ([.ref x, .int (nI i), .int (nI j), .int v, .ref ou]) ++ List.replicate (6 - (lg_sl ([.ref x, .int (nI i), .int (nI j), .int v, .ref ou])).length) Slot.unset).toArray = ls at hl ⊢
  have hl : lv_has ls 6 [(0, .ref x), (1, .int (nI i)), (2, .int (nI j)), (3, .int v), (4, .ref ou)] := hl
  refine hv_start (A := A) (ws := [(x, .inr (5, [.ref xp, .ref xt, .ref so, .ref g, .ref sc, .ref fo, .int sof])), (ou, .inl (cL, 1, .inr (.inl fo9)))]) hP (fun H locs hP hS => ?_)
  have w_0 := hts (.classLink RL 25 iae) (by decide +kernel)
  have w_1 := hts (.classLink RL 13 nse) (by decide +kernel)
  refine lv_aload hx hb dL_score_0 (lv_at hl 4 rfl) ?_
  refine lv_iconst (v := 0) hx hb dL_score_2 (by decide) ?_
  refine lv_aload_n hx hb dL_score_3 rfl (lv_at hl 0 rfl) ?_
  refine lv_iload_n hx hb dL_score_4 rfl (lv_at hl 1 rfl) ?_
  refine lv_iload_n hx hb dL_score_5 rfl (lv_at hl 2 rfl) ?_
  refine lv_iload_n hx hb dL_score_6 rfl (lv_at hl 3 rfl) ?_
  have fr := fr_x (wc := [(x, .inr (5, [.ref xp, .ref xt, .ref so, .ref g, .ref sc, .ref fo, .int sof]))]) (wr := [(ou, .inl (cL, 1, .inr (.inl fo9)))]) hP hD hS hA [0] [1] rfl rfl (by decide) (by decide) (by decide)
  refine cx_v (E0 := iae) (J := fun _ => [(x, .inr (5, [.ref xp, .ref xt, .ref so, .ref g, .ref sc, .ref fo, .int sof])), (ou, .inl (cL, 1, .inr (.inl fo9)))]) (As := [.int (nI i), .int (nI j), .int v]) (rest := [.int 0, .ref ou]) (q0 := 0) (ci := 5) ⟨hx, hb, hml, hown, hts⟩ (c_X5_score_nv l htr D cI cJ cL H.size x xp xt so g sc fo sof i j v hi hj h0) (cwV 3 hts gL_score_X5_score rfl rfl rfl (by decide +kernel) ⟨Nat.le_of_ble_eq_true rfl, Nat.le_of_ble_eq_true rfl⟩) hK fr.1 fr.2.1 fr.2.2.1 (fun H1 u hk h1 h2 => ⟨(fr.2.2.2 _ H1 hk h1 h2).1.sub [1, 0] rfl, (fr.2.2.2 _ H1 hk h1 h2).2.sub [1, 0] (by decide) rfl⟩) hS hE rfl rfl rfl rfl hl.1 rfl (Nat.le_of_ble_eq_true rfl) dL_score_7 ⟨Nat.le_of_ble_eq_true rfl, Nat.le_of_ble_eq_true rfl⟩ (fun ce q9 u9 H locs hw hP hD hS hce hcv hcl => ?_)
  refine vx_catch (own := RL) (name := iae) hown [⟨0, 12, 15, 13⟩] ⟨0, 12, 19, 25⟩ [] htab (fun z hz => by rw [List.mem_singleton.mp hz]; exact Or.inr ⟨(by decide), nse, w_1, hE.2.2.2.2.1⟩) (by decide) (by decide) w_0 (xK.at hE.2.2.2.2.2 (.castable iae iae) (by decide +kernel)) hce hcv hcl ?_
  refine W.eq (g2 := F0 m 19 ls [.ref q9]) rfl ?_
  refine lv_astore (lv' := [(5, .ref q9), (0, .ref x), (1, .int (nI i)), (2, .int (nI j)), (3, .int v), (4, .ref ou)]) hx hb dL_score_19 hl (by decide) rfl (fun ls hl => ?_)
  refine lv_iconst (v := 2) hx hb dL_score_21 (by decide) ?_
  refine W.widen (k := 1) (n := 6) (by decide) (by decide) ?_
  exact fin_i () hx hb hr hlocks dL_score_22 hK hS hP hD rfl

set_option maxHeartbeats 4000000 in
set_option maxRecDepth 100000 in
theorem c_L_gaps_y (l : Launch) (D : va_G) (cI cJ cL : ClassId) (sz : Nat) (x : Nat) (xp : Nat) (xt : Nat) (so : Nat) (g : Nat) (sc : Nat) (fo : Nat) (sof : Int32) (sg : Nat) (oo : Int32) (xx : Int32) (tg : Nat → Option Nat) (p0 : Int32) (p1 : Int32) (h0 : 0 ≤ p0 ∧ p0 ≤ 1000 ∧ 0 ≤ p1 ∧ p1 ≤ 1000) :
    Met l yL_gaps wsL_gaps { frames := 2, cells := 0, slots := 0, locals := 44 } (va_Pc [.ref x, .int p0, .int p1] (Wd D [(cI, .int), (cJ, .array .int), (cL, .long)] [(x, .inr (5, [.ref xp, .ref xt, .ref so, .ref g, .ref sc, .ref fo, .int sof])), (so, .inr (2, [.ref sg, .int oo, .int xx])), (sg, .inl (cJ, 8, .inr (.inr (.inr (.inr tg)))))] sz))
      (va_Qi (fun (r : Int32) (_ : Unit) => r = 0) (fun _ => Wa D [(cI, .int), (cJ, .array .int), (cL, .long)] (va_A [(x, .inr (5, [.ref xp, .ref xt, .ref so, .ref g, .ref sc, .ref fo, .int sof])), (so, .inr (2, [.ref sg, .int oo, .int xx])), (sg, .inl (cJ, 8, .inr (.inr (.inr (.inr tg)))))] sz) ([(x, .inr (5, [.ref xp, .ref xt, .ref so, .ref g, .ref sc, .ref fo, .int sof])), (so, .inr (2, [.ref sg, .int p0, .int p1])), (sg, .inl (cJ, 8, .inr (.inr (.inr (.inr tg)))))])) (va_A [(x, .inr (5, [.ref xp, .ref xt, .ref so, .ref g, .ref sc, .ref fo, .int sof])), (so, .inr (2, [.ref sg, .int oo, .int xx])), (sg, .inl (cJ, 8, .inr (.inr (.inr (.inr tg)))))] sz)) 0 0 (va_A [(x, .inr (5, [.ref xp, .ref xt, .ref so, .ref g, .ref sc, .ref fo, .int sof])), (so, .inr (2, [.ref sg, .int oo, .int xx])), (sg, .inl (cJ, 8, .inr (.inr (.inr (.inr tg)))))] sz) := by
  refine va_MetW (hh := [(0, 6, 9, 25)]) (cc := cL_gaps) (maxL := 4) (ret := (some .int)) (by decide) rfl ?_
  intro p e s m args below meth c s₁ B hml hv
  obtain ⟨rfl, hsz, hP, hK, hD0⟩ := hv
  have hx := B.exec
  have hb := B.bytes
  have hr := B.returns
  have hts := atoms_spec (ws := wsL_gaps) B.pre
  have hown : s.vm.findClass RL = some m.cls := findClass_of_methodNamed B.named
  have hlocks := B.notSynchronized
  subst hsz
  have hD := hD0.self (sz := s.heap.size)
  generalize hAe : va_A [(x, .inr (5, [.ref xp, .ref xt, .ref so, .ref g, .ref sc, .ref fo, .int sof])), (so, .inr (2, [.ref sg, .int oo, .int xx])), (sg, .inl (cJ, 8, .inr (.inr (.inr (.inr tg)))))] s.heap.size = A at hD ⊢
  have hA : ∀ q : Nat, s.heap.size ≤ q → A q := fun q h => by rw [← hAe]; exact Or.inr h
  have hl := lv_entry ([.ref x, .int p0, .int p1]) (n := 4) (Nat.le_of_ble_eq_true rfl)
  rw [lg_entry_eq]
  generalize (lg_sl ([.ref x, .int p0, .int p1]) ++ List.replicate (4 - (lg_sl ([.ref x, .int p0, .int p1])).length) Slot.unset).toArray = ls at hl ⊢
  have hl : lv_has ls 4 [(0, .ref x), (1, .int p0), (2, .int p1)] := hl
  refine hv_start (A := A) (ws := [(x, .inr (5, [.ref xp, .ref xt, .ref so, .ref g, .ref sc, .ref fo, .int sof])), (so, .inr (2, [.ref sg, .int oo, .int xx])), (sg, .inl (cJ, 8, .inr (.inr (.inr (.inr tg)))))]) hP (fun H locs hP hS => ?_)
  refine lv_aload_n hx hb dL_gaps_0 rfl (lv_at hl 0 rfl) ?_
  refine lv_iload_n hx hb dL_gaps_1 rfl (lv_at hl 1 rfl) ?_
  refine lv_iload_n hx hb dL_gaps_2 rfl (lv_at hl 2 rfl) ?_
  have fr := fr_x (wc := [(x, .inr (5, [.ref xp, .ref xt, .ref so, .ref g, .ref sc, .ref fo, .int sof])), (so, .inr (2, [.ref sg, .int oo, .int xx])), (sg, .inl (cJ, 8, .inr (.inr (.inr (.inr tg)))))]) (wr := []) hP hD hS hA [0, 1, 2] [] rfl rfl (by decide) (by decide) (by decide)
  refine cv_v (J := fun _ => [(x, .inr (5, [.ref xp, .ref xt, .ref so, .ref g, .ref sc, .ref fo, .int sof])), (so, .inr (2, [.ref sg, .int p0, .int p1])), (sg, .inl (cJ, 8, .inr (.inr (.inr (.inr tg)))))]) (As := [.int p0, .int p1]) (rest := []) (q0 := 0) (ci := 5) ⟨hx, hb, hml, hown, hts⟩ (c_X5_gaps_y l D cI cJ cL H.size x xp xt so g sc fo sof sg oo xx tg p0 p1 h0) (cwV 2 hts gL_gaps_X5_gaps rfl rfl rfl (by decide +kernel) ⟨Nat.le_of_ble_eq_true rfl, Nat.le_of_ble_eq_true rfl⟩) hK fr.1 fr.2.1 fr.2.2.1 (fun H1 u hk h1 h2 => ⟨(fr.2.2.2 _ H1 hk h1 h2).1.sub [0, 1, 2] rfl, (fr.2.2.2 _ H1 hk h1 h2).2.sub [0, 1, 2] (by decide) rfl⟩) hS rfl rfl rfl rfl hl.1 rfl (Nat.le_of_ble_eq_true rfl) dL_gaps_3 ⟨Nat.zero_le _, Nat.zero_le _⟩ (fun u_1 H locs hw hP hD hS => ?_)
  refine lv_goto (tgt := 12) hx hb dL_gaps_6 (by decide) ?_
  refine lv_iconst (v := 0) hx hb dL_gaps_12 (by decide) ?_
  exact fin_i () hx hb hr hlocks dL_gaps_13 hK hS hP hD rfl

set_option maxHeartbeats 4000000 in
set_option maxRecDepth 100000 in
theorem c_L_gaps_n (l : Launch) (htr : l.stackTraces = false) (D : va_G) (cI cJ cL : ClassId) (sz : Nat) (x : Nat) (xp : Nat) (xt : Nat) (so : Nat) (g : Nat) (sc : Nat) (fo : Nat) (sof : Int32) (p0 : Int32) (p1 : Int32) (h0 : ¬ (0 ≤ p0 ∧ p0 ≤ 1000 ∧ 0 ≤ p1 ∧ p1 ≤ 1000)) :
    Met l yL_gaps wsL_gaps { frames := 7, cells := 1, slots := 6, locals := 112 } (va_Pc [.ref x, .int p0, .int p1] (Wx D [(cI, .int), (cJ, .array .int), (cL, .long)] [(x, .inr (5, [.ref xp, .ref xt, .ref so, .ref g, .ref sc, .ref fo, .int sof]))] sz))
      (va_Qi (fun (r : Int32) (_ : Unit) => r = 1) (fun _ => Wa D [(cI, .int), (cJ, .array .int), (cL, .long)] (va_A [(x, .inr (5, [.ref xp, .ref xt, .ref so, .ref g, .ref sc, .ref fo, .int sof]))] sz) ([(x, .inr (5, [.ref xp, .ref xt, .ref so, .ref g, .ref sc, .ref fo, .int sof]))])) (va_A [(x, .inr (5, [.ref xp, .ref xt, .ref so, .ref g, .ref sc, .ref fo, .int sof]))] sz)) 1 6 (va_A [(x, .inr (5, [.ref xp, .ref xt, .ref so, .ref g, .ref sc, .ref fo, .int sof]))] sz) := by
  refine va_MetW (hh := [(0, 6, 9, 25)]) (cc := cL_gaps) (maxL := 4) (ret := (some .int)) (by decide) rfl ?_
  intro p e s m args below meth c s₁ B hml hv
  obtain ⟨rfl, ⟨hsz, hP, hK, hD0⟩, hE⟩ := hv
  have htab := vx_table (x := yL_gaps) B (atoms_spec (ws := wsL_gaps) B.pre _ List.mem_cons_self)
  have hx := B.exec
  have hb := B.bytes
  have hr := B.returns
  have hts := atoms_spec (ws := wsL_gaps) B.pre
  have hown : s.vm.findClass RL = some m.cls := findClass_of_methodNamed B.named
  have hlocks := B.notSynchronized
  subst hsz
  have hD := hD0.self (sz := s.heap.size)
  generalize hAe : va_A [(x, .inr (5, [.ref xp, .ref xt, .ref so, .ref g, .ref sc, .ref fo, .int sof]))] s.heap.size = A at hD hE ⊢
  have hA : ∀ q : Nat, s.heap.size ≤ q → A q := fun q h => by rw [← hAe]; exact Or.inr h
  have hl := lv_entry ([.ref x, .int p0, .int p1]) (n := 4) (Nat.le_of_ble_eq_true rfl)
  rw [lg_entry_eq]
  generalize (lg_sl ([.ref x, .int p0, .int p1]) ++ List.replicate (4 - (lg_sl ([.ref x, .int p0, .int p1])).length) Slot.unset).toArray = ls at hl ⊢
  have hl : lv_has ls 4 [(0, .ref x), (1, .int p0), (2, .int p1)] := hl
  refine hv_start (A := A) (ws := [(x, .inr (5, [.ref xp, .ref xt, .ref so, .ref g, .ref sc, .ref fo, .int sof]))]) hP (fun H locs hP hS => ?_)
  have w_0 := hts (.classLink RL 25 iae) (by decide +kernel)
  refine lv_aload_n hx hb dL_gaps_0 rfl (lv_at hl 0 rfl) ?_
  refine lv_iload_n hx hb dL_gaps_1 rfl (lv_at hl 1 rfl) ?_
  refine lv_iload_n hx hb dL_gaps_2 rfl (lv_at hl 2 rfl) ?_
  have fr := fr_x (wc := [(x, .inr (5, [.ref xp, .ref xt, .ref so, .ref g, .ref sc, .ref fo, .int sof]))]) (wr := []) hP hD hS hA [0] [] rfl rfl (by decide) (by decide) (by decide)
  refine cx_v (E0 := iae) (J := fun _ => [(x, .inr (5, [.ref xp, .ref xt, .ref so, .ref g, .ref sc, .ref fo, .int sof]))]) (As := [.int p0, .int p1]) (rest := []) (q0 := 0) (ci := 5) ⟨hx, hb, hml, hown, hts⟩ (c_X5_gaps_n l htr D cI cJ cL H.size x xp xt so g sc fo sof p0 p1 h0) (cwV 2 hts gL_gaps_X5_gaps rfl rfl rfl (by decide +kernel) ⟨Nat.le_of_ble_eq_true rfl, Nat.le_of_ble_eq_true rfl⟩) hK fr.1 fr.2.1 fr.2.2.1 (fun H1 u hk h1 h2 => ⟨(fr.2.2.2 _ H1 hk h1 h2).1.sub [0] rfl, (fr.2.2.2 _ H1 hk h1 h2).2.sub [0] (by decide) rfl⟩) hS hE rfl rfl rfl rfl hl.1 rfl (Nat.le_of_ble_eq_true rfl) dL_gaps_3 ⟨Nat.le_of_ble_eq_true rfl, Nat.le_of_ble_eq_true rfl⟩ (fun ce q9 u9 H locs hw hP hD hS hce hcv hcl => ?_)
  refine vx_catch (own := RL) (name := iae) hown [] ⟨0, 6, 9, 25⟩ [] htab (fun z hz => absurd hz List.not_mem_nil) (by decide) (by decide) w_0 (xK.at hE.2.2.2.2.2 (.castable iae iae) (by decide +kernel)) hce hcv hcl ?_
  refine W.eq (g2 := F0 m 9 ls [.ref q9]) rfl ?_
  refine lv_astore_n (lv' := [(3, .ref q9), (0, .ref x), (1, .int p0), (2, .int p1)]) hx hb dL_gaps_9 rfl hl (by decide) rfl (fun ls hl => ?_)
  refine lv_iconst (v := 1) hx hb dL_gaps_10 (by decide) ?_
  refine W.widen (k := 1) (n := 6) (by decide) (by decide) ?_
  exact fin_i () hx hb hr hlocks dL_gaps_11 hK hS hP hD rfl

set_option maxHeartbeats 4000000 in
set_option maxRecDepth 100000 in
theorem c_L_fit_0 (l : Launch) (D : va_G) (cI cJ cL : ClassId) (sz : Nat) (x : Nat) (xp : Nat) (xt : Nat) (so : Nat) (g : Nat) (sc : Nat) (fo : Nat) (sof : Int32) (xpa : Nat) (mm : Nat) (pp : Nat → Int32) (xta : Nat) (nn : Nat) (tt : Nat → Int32) (sg : Nat) (oo : Int32) (xx : Int32) (tg : Nat → Option Nat) (ff : Nat) (fg : Nat) (bs : Int32) (bp : Int32) (bt : Int32) (hh : Nat → Int32) (gg : Nat → Int32) (LP : List Nat) (pl : Nat → Nat) (pr : Nat → Nat → Int32) (tb : Nat → Nat → Int32) (mode : Int32) (ou : Nat) (fo9 : Nat → Int64) (hG : gr_ok tg LP pl pr 8 8 tb) (hmm : mm ≤ 150) (hnn : nn ≤ 300) (hpp : ∀ i, i < mm → pf_sg (pp i)) (htt : ∀ j, j < nn → pf_sg (tt j)) (h0 : mode = 0) :
    Met l yL_fit wsL_fit { frames := 4, cells := 0, slots := 0, locals := 101 } (va_Pc [.ref x, .int mode, .ref ou] (Wd D [(cI, .int), (cJ, .array .int), (cL, .long)] ([(x, .inr (5, [.ref xp, .ref xt, .ref so, .ref g, .ref sc, .ref fo, .int sof])), (xp, .inr (4, [.ref xpa, .int (nI mm)])), (xpa, .inl (cI, 150, .inl pp)), (xt, .inr (4, [.ref xta, .int (nI nn)])), (xta, .inl (cI, 300, .inl tt)), (so, .inr (2, [.ref sg, .int oo, .int xx])), (sg, .inl (cJ, 8, .inr (.inr (.inr (.inr tg))))), (fo, .inr (1, [.ref ff, .ref fg, .int bs, .int bp, .int bt])), (ff, .inl (cI, 301, .inl hh)), (fg, .inl (cI, 301, .inl gg)), (ou, .inl (cL, 1, .inr (.inl fo9)))] ++ va_pl LP (gF cI pl pr)) sz))
      (va_Qi (fun (r : Int32) (u : (Nat → Int32) × (Nat → Int32)) => r = 0) (fun u => Wa D [(cI, .int), (cJ, .array .int), (cL, .long)] (va_A ([(x, .inr (5, [.ref xp, .ref xt, .ref so, .ref g, .ref sc, .ref fo, .int sof])), (xp, .inr (4, [.ref xpa, .int (nI mm)])), (xpa, .inl (cI, 150, .inl pp)), (xt, .inr (4, [.ref xta, .int (nI nn)])), (xta, .inl (cI, 300, .inl tt)), (so, .inr (2, [.ref sg, .int oo, .int xx])), (sg, .inl (cJ, 8, .inr (.inr (.inr (.inr tg))))), (fo, .inr (1, [.ref ff, .ref fg, .int bs, .int bp, .int bt])), (ff, .inl (cI, 301, .inl hh)), (fg, .inl (cI, 301, .inl gg)), (ou, .inl (cL, 1, .inr (.inl fo9)))] ++ va_pl LP (gF cI pl pr)) sz) (([(x, .inr (5, [.ref xp, .ref xt, .ref so, .ref g, .ref sc, .ref fo, .int sof])), (xp, .inr (4, [.ref xpa, .int (nI mm)])), (xpa, .inl (cI, 150, .inl pp)), (xt, .inr (4, [.ref xta, .int (nI nn)])), (xta, .inl (cI, 300, .inl tt)), (so, .inr (2, [.ref sg, .int oo, .int xx])), (sg, .inl (cJ, 8, .inr (.inr (.inr (.inr tg))))), (fo, .inr (1, [.ref ff, .ref fg, .int bs, .int bp, .int bt])), (ff, .inl (cI, 301, .inl u.1)), (fg, .inl (cI, 301, .inl u.2)), (ou, .inl (cL, 1, .inr (.inl (vp_updL fo9 0 ((pf_cr false oo xx (fun i j => tb (pf_kd (pp i)) (pf_kd (tt j))) mm).1 nn).toInt64))))] ++ va_pl LP (gF cI pl pr)))) (va_A ([(x, .inr (5, [.ref xp, .ref xt, .ref so, .ref g, .ref sc, .ref fo, .int sof])), (xp, .inr (4, [.ref xpa, .int (nI mm)])), (xpa, .inl (cI, 150, .inl pp)), (xt, .inr (4, [.ref xta, .int (nI nn)])), (xta, .inl (cI, 300, .inl tt)), (so, .inr (2, [.ref sg, .int oo, .int xx])), (sg, .inl (cJ, 8, .inr (.inr (.inr (.inr tg))))), (fo, .inr (1, [.ref ff, .ref fg, .int bs, .int bp, .int bt])), (ff, .inl (cI, 301, .inl hh)), (fg, .inl (cI, 301, .inl gg)), (ou, .inl (cL, 1, .inr (.inl fo9)))] ++ va_pl LP (gF cI pl pr)) sz)) 0 0 (va_A ([(x, .inr (5, [.ref xp, .ref xt, .ref so, .ref g, .ref sc, .ref fo, .int sof])), (xp, .inr (4, [.ref xpa, .int (nI mm)])), (xpa, .inl (cI, 150, .inl pp)), (xt, .inr (4, [.ref xta, .int (nI nn)])), (xta, .inl (cI, 300, .inl tt)), (so, .inr (2, [.ref sg, .int oo, .int xx])), (sg, .inl (cJ, 8, .inr (.inr (.inr (.inr tg))))), (fo, .inr (1, [.ref ff, .ref fg, .int bs, .int bp, .int bt])), (ff, .inl (cI, 301, .inl hh)), (fg, .inl (cI, 301, .inl gg)), (ou, .inl (cL, 1, .inr (.inl fo9)))] ++ va_pl LP (gF cI pl pr)) sz) := by
  refine va_MetW (hh := [(0, 9, 12, 25)]) (cc := cL_fit) (maxL := 4) (ret := (some .int)) (by decide) rfl ?_
  intro p e s m args below meth c s₁ B hml hv
  obtain ⟨rfl, hsz, hP, hK, hD0⟩ := hv
  have hx := B.exec
  have hb := B.bytes
  have hr := B.returns
  have hts := atoms_spec (ws := wsL_fit) B.pre
  have hown : s.vm.findClass RL = some m.cls := findClass_of_methodNamed B.named
  have hlocks := B.notSynchronized
  subst hsz
  have hD := hD0.self (sz := s.heap.size)
  generalize hAe : va_A ([(x, .inr (5, [.ref xp, .ref xt, .ref so, .ref g, .ref sc, .ref fo, .int sof])), (xp, .inr (4, [.ref xpa, .int (nI mm)])), (xpa, .inl (cI, 150, .inl pp)), (xt, .inr (4, [.ref xta, .int (nI nn)])), (xta, .inl (cI, 300, .inl tt)), (so, .inr (2, [.ref sg, .int oo, .int xx])), (sg, .inl (cJ, 8, .inr (.inr (.inr (.inr tg))))), (fo, .inr (1, [.ref ff, .ref fg, .int bs, .int bp, .int bt])), (ff, .inl (cI, 301, .inl hh)), (fg, .inl (cI, 301, .inl gg)), (ou, .inl (cL, 1, .inr (.inl fo9)))] ++ va_pl LP (gF cI pl pr)) s.heap.size = A at hD ⊢
  have hA : ∀ q : Nat, s.heap.size ≤ q → A q := fun q h => by rw [← hAe]; exact Or.inr h
  have hl := lv_entry ([.ref x, .int mode, .ref ou]) (n := 4) (Nat.le_of_ble_eq_true rfl)
  rw [lg_entry_eq]
  generalize (lg_sl ([.ref x, .int mode, .ref ou]) ++ List.replicate (4 - (lg_sl ([.ref x, .int mode, .ref ou])).length) Slot.unset).toArray = ls at hl ⊢
  have hl : lv_has ls 4 [(0, .ref x), (1, .int mode), (2, .ref ou)] := hl
  refine hv_start (A := A) (ws := ([(x, .inr (5, [.ref xp, .ref xt, .ref so, .ref g, .ref sc, .ref fo, .int sof])), (xp, .inr (4, [.ref xpa, .int (nI mm)])), (xpa, .inl (cI, 150, .inl pp)), (xt, .inr (4, [.ref xta, .int (nI nn)])), (xta, .inl (cI, 300, .inl tt)), (so, .inr (2, [.ref sg, .int oo, .int xx])), (sg, .inl (cJ, 8, .inr (.inr (.inr (.inr tg))))), (fo, .inr (1, [.ref ff, .ref fg, .int bs, .int bp, .int bt])), (ff, .inl (cI, 301, .inl hh)), (fg, .inl (cI, 301, .inl gg)), (ou, .inl (cL, 1, .inr (.inl fo9)))] ++ va_pl LP (gF cI pl pr))) hP (fun H locs hP hS => ?_)
  refine lv_aload_n hx hb dL_fit_0 rfl (lv_at hl 2 rfl) ?_
  refine lv_iconst (v := 0) hx hb dL_fit_1 (by decide) ?_
  refine lv_aload_n hx hb dL_fit_2 rfl (lv_at hl 0 rfl) ?_
  refine lv_iload_n hx hb dL_fit_3 rfl (lv_at hl 1 rfl) ?_
  have fr := fr_p (X := [(x, .inr (5, [.ref xp, .ref xt, .ref so, .ref g, .ref sc, .ref fo, .int sof])), (xp, .inr (4, [.ref xpa, .int (nI mm)])), (xpa, .inl (cI, 150, .inl pp)), (xt, .inr (4, [.ref xta, .int (nI nn)])), (xta, .inl (cI, 300, .inl tt)), (so, .inr (2, [.ref sg, .int oo, .int xx])), (sg, .inl (cJ, 8, .inr (.inr (.inr (.inr tg))))), (fo, .inr (1, [.ref ff, .ref fg, .int bs, .int bp, .int bt])), (ff, .inl (cI, 301, .inl hh)), (fg, .inl (cI, 301, .inl gg)), (ou, .inl (cL, 1, .inr (.inl fo9)))]) (cx := [(x, .inr (5, [.ref xp, .ref xt, .ref so, .ref g, .ref sc, .ref fo, .int sof])), (xp, .inr (4, [.ref xpa, .int (nI mm)])), (xpa, .inl (cI, 150, .inl pp)), (xt, .inr (4, [.ref xta, .int (nI nn)])), (xta, .inl (cI, 300, .inl tt)), (so, .inr (2, [.ref sg, .int oo, .int xx])), (sg, .inl (cJ, 8, .inr (.inr (.inr (.inr tg))))), (fo, .inr (1, [.ref ff, .ref fg, .int bs, .int bp, .int bt])), (ff, .inl (cI, 301, .inl hh)), (fg, .inl (cI, 301, .inl gg))]) (wr := [(ou, .inl (cL, 1, .inr (.inl fo9)))]) (pl := va_pl LP (gF cI pl pr)) hP hD hS hA [0, 1, 2, 3, 4, 5, 6, 7, 8, 9] [10] rfl rfl (by decide) (by decide) (by decide)
  refine cv_i (J := fun u => ([(x, .inr (5, [.ref xp, .ref xt, .ref so, .ref g, .ref sc, .ref fo, .int sof])), (xp, .inr (4, [.ref xpa, .int (nI mm)])), (xpa, .inl (cI, 150, .inl pp)), (xt, .inr (4, [.ref xta, .int (nI nn)])), (xta, .inl (cI, 300, .inl tt)), (so, .inr (2, [.ref sg, .int oo, .int xx])), (sg, .inl (cJ, 8, .inr (.inr (.inr (.inr tg))))), (fo, .inr (1, [.ref ff, .ref fg, .int bs, .int bp, .int bt])), (ff, .inl (cI, 301, .inl u.1)), (fg, .inl (cI, 301, .inl u.2)), (ou, .inl (cL, 1, .inr (.inl fo9)))] ++ va_pl LP (gF cI pl pr))) (As := [.int mode]) (rest := [.int 0, .ref ou]) (q0 := 0) (ci := 5) ⟨hx, hb, hml, hown, hts⟩ (c_X5_fit_0 l D cI cJ cL H.size x xp xt so g sc fo sof xpa mm pp xta nn tt sg oo xx tg ff fg bs bp bt hh gg LP pl pr tb mode hG hmm hnn hpp htt h0) (cwV 1 hts gL_fit_X5_fit rfl rfl rfl (by decide +kernel) ⟨Nat.le_of_ble_eq_true rfl, Nat.le_of_ble_eq_true rfl⟩) hK fr.1 fr.2.1 fr.2.2.1 (fun H1 u hk h1 h2 => ⟨(fr.2.2.2 _ _ H1 hk h1 h2).1.part [1, 2, 3, 4, 5, 6, 7, 8, 9, 10, 0] rfl, (fr.2.2.2 _ _ H1 hk h1 h2).2.part [1, 2, 3, 4, 5, 6, 7, 8, 9, 10, 0] (by decide) rfl⟩) hS rfl rfl rfl rfl hl.1 rfl (Nat.le_of_ble_eq_true rfl) dL_fit_4 ⟨Nat.zero_le _, Nat.zero_le _⟩ (fun r_2 u_1 H locs hw hP hD hS => ?_)
  refine lv_cv (y := (pf_cr false oo xx (fun i j => tb (pf_kd (pp i)) (pf_kd (tt j))) mm).1 nn) hw ?_
  refine lv_i2l hx hb dL_fit_7 rfl ?_
  refine va_lastN hx hb hK hP hD hS 10 2 rfl rfl (x := ((pf_cr false oo xx (fun i j => tb (pf_kd (pp i)) (pf_kd (tt j))) mm).1 nn).toInt64) (by decide) (by decide) dL_fit_8 (fun H locs hP hD hS => ?_)
  have hP : va_P D vwCl ([(x, .inr (5, [.ref xp, .ref xt, .ref so, .ref g, .ref sc, .ref fo, .int sof])), (xp, .inr (4, [.ref xpa, .int (nI mm)])), (xpa, .inl (cI, 150, .inl pp)), (xt, .inr (4, [.ref xta, .int (nI nn)])), (xta, .inl (cI, 300, .inl tt)), (so, .inr (2, [.ref sg, .int oo, .int xx])), (sg, .inl (cJ, 8, .inr (.inr (.inr (.inr tg))))), (fo, .inr (1, [.ref ff, .ref fg, .int bs, .int bp, .int bt])), (ff, .inl (cI, 301, .inl u_1.1)), (fg, .inl (cI, 301, .inl u_1.2)), (ou, .inl (cL, 1, .inr (.inl (vp_updL fo9 0 (((pf_cr false oo xx (fun i j => tb (pf_kd (pp i)) (pf_kd (tt j))) mm).1 nn).toInt64)))))] ++ va_pl LP (gF cI pl pr)) H := hP
  have hD : va_D A ([(x, .inr (5, [.ref xp, .ref xt, .ref so, .ref g, .ref sc, .ref fo, .int sof])), (xp, .inr (4, [.ref xpa, .int (nI mm)])), (xpa, .inl (cI, 150, .inl pp)), (xt, .inr (4, [.ref xta, .int (nI nn)])), (xta, .inl (cI, 300, .inl tt)), (so, .inr (2, [.ref sg, .int oo, .int xx])), (sg, .inl (cJ, 8, .inr (.inr (.inr (.inr tg))))), (fo, .inr (1, [.ref ff, .ref fg, .int bs, .int bp, .int bt])), (ff, .inl (cI, 301, .inl u_1.1)), (fg, .inl (cI, 301, .inl u_1.2)), (ou, .inl (cL, 1, .inr (.inl (vp_updL fo9 0 (((pf_cr false oo xx (fun i j => tb (pf_kd (pp i)) (pf_kd (tt j))) mm).1 nn).toInt64)))))] ++ va_pl LP (gF cI pl pr)) := hD
  refine lv_goto (tgt := 15) hx hb dL_fit_9 (by decide) ?_
  refine lv_iconst (v := 0) hx hb dL_fit_15 (by decide) ?_
  exact fin_i u_1 hx hb hr hlocks dL_fit_16 hK hS hP hD rfl

set_option maxHeartbeats 4000000 in
set_option maxRecDepth 100000 in
theorem c_L_fit_1 (l : Launch) (D : va_G) (cI cJ cL : ClassId) (sz : Nat) (x : Nat) (xp : Nat) (xt : Nat) (so : Nat) (g : Nat) (sc : Nat) (fo : Nat) (sof : Int32) (xpa : Nat) (mm : Nat) (pp : Nat → Int32) (xta : Nat) (nn : Nat) (tt : Nat → Int32) (sg : Nat) (oo : Int32) (xx : Int32) (tg : Nat → Option Nat) (ff : Nat) (fg : Nat) (bs : Int32) (bp : Int32) (bt : Int32) (hh : Nat → Int32) (gg : Nat → Int32) (LP : List Nat) (pl : Nat → Nat) (pr : Nat → Nat → Int32) (tb : Nat → Nat → Int32) (mode : Int32) (ou : Nat) (fo9 : Nat → Int64) (hG : gr_ok tg LP pl pr 8 8 tb) (hmm : mm ≤ 150) (hnn : nn ≤ 300) (hpp : ∀ i, i < mm → pf_sg (pp i)) (htt : ∀ j, j < nn → pf_sg (tt j)) (h0 : mode = 1) :
    Met l yL_fit wsL_fit { frames := 4, cells := 0, slots := 0, locals := 100 } (va_Pc [.ref x, .int mode, .ref ou] (Wd D [(cI, .int), (cJ, .array .int), (cL, .long)] ([(x, .inr (5, [.ref xp, .ref xt, .ref so, .ref g, .ref sc, .ref fo, .int sof])), (xp, .inr (4, [.ref xpa, .int (nI mm)])), (xpa, .inl (cI, 150, .inl pp)), (xt, .inr (4, [.ref xta, .int (nI nn)])), (xta, .inl (cI, 300, .inl tt)), (so, .inr (2, [.ref sg, .int oo, .int xx])), (sg, .inl (cJ, 8, .inr (.inr (.inr (.inr tg))))), (fo, .inr (1, [.ref ff, .ref fg, .int bs, .int bp, .int bt])), (ff, .inl (cI, 301, .inl hh)), (fg, .inl (cI, 301, .inl gg)), (ou, .inl (cL, 1, .inr (.inl fo9)))] ++ va_pl LP (gF cI pl pr)) sz))
      (va_Qi (fun (r : Int32) (u : (Nat → Int32) × (Nat → Int32)) => r = 0) (fun u => Wa D [(cI, .int), (cJ, .array .int), (cL, .long)] (va_A ([(x, .inr (5, [.ref xp, .ref xt, .ref so, .ref g, .ref sc, .ref fo, .int sof])), (xp, .inr (4, [.ref xpa, .int (nI mm)])), (xpa, .inl (cI, 150, .inl pp)), (xt, .inr (4, [.ref xta, .int (nI nn)])), (xta, .inl (cI, 300, .inl tt)), (so, .inr (2, [.ref sg, .int oo, .int xx])), (sg, .inl (cJ, 8, .inr (.inr (.inr (.inr tg))))), (fo, .inr (1, [.ref ff, .ref fg, .int bs, .int bp, .int bt])), (ff, .inl (cI, 301, .inl hh)), (fg, .inl (cI, 301, .inl gg)), (ou, .inl (cL, 1, .inr (.inl fo9)))] ++ va_pl LP (gF cI pl pr)) sz) (([(x, .inr (5, [.ref xp, .ref xt, .ref so, .ref g, .ref sc, .ref fo, .int sof])), (xp, .inr (4, [.ref xpa, .int (nI mm)])), (xpa, .inl (cI, 150, .inl pp)), (xt, .inr (4, [.ref xta, .int (nI nn)])), (xta, .inl (cI, 300, .inl tt)), (so, .inr (2, [.ref sg, .int oo, .int xx])), (sg, .inl (cJ, 8, .inr (.inr (.inr (.inr tg))))), (fo, .inr (1, [.ref ff, .ref fg, .int ((pf_best (fun i j => (pf_cr true oo xx (fun i j => tb (pf_kd (pp i)) (pf_kd (tt j))) i).1 j) nn mm).1), .int ((pf_best (fun i j => (pf_cr true oo xx (fun i j => tb (pf_kd (pp i)) (pf_kd (tt j))) i).1 j) nn mm).2.1), .int ((pf_best (fun i j => (pf_cr true oo xx (fun i j => tb (pf_kd (pp i)) (pf_kd (tt j))) i).1 j) nn mm).2.2)])), (ff, .inl (cI, 301, .inl u.1)), (fg, .inl (cI, 301, .inl u.2)), (ou, .inl (cL, 1, .inr (.inl (vp_updL fo9 0 ((pf_best (fun i j => (pf_cr true oo xx (fun i j => tb (pf_kd (pp i)) (pf_kd (tt j))) i).1 j) nn mm).1).toInt64))))] ++ va_pl LP (gF cI pl pr)))) (va_A ([(x, .inr (5, [.ref xp, .ref xt, .ref so, .ref g, .ref sc, .ref fo, .int sof])), (xp, .inr (4, [.ref xpa, .int (nI mm)])), (xpa, .inl (cI, 150, .inl pp)), (xt, .inr (4, [.ref xta, .int (nI nn)])), (xta, .inl (cI, 300, .inl tt)), (so, .inr (2, [.ref sg, .int oo, .int xx])), (sg, .inl (cJ, 8, .inr (.inr (.inr (.inr tg))))), (fo, .inr (1, [.ref ff, .ref fg, .int bs, .int bp, .int bt])), (ff, .inl (cI, 301, .inl hh)), (fg, .inl (cI, 301, .inl gg)), (ou, .inl (cL, 1, .inr (.inl fo9)))] ++ va_pl LP (gF cI pl pr)) sz)) 0 0 (va_A ([(x, .inr (5, [.ref xp, .ref xt, .ref so, .ref g, .ref sc, .ref fo, .int sof])), (xp, .inr (4, [.ref xpa, .int (nI mm)])), (xpa, .inl (cI, 150, .inl pp)), (xt, .inr (4, [.ref xta, .int (nI nn)])), (xta, .inl (cI, 300, .inl tt)), (so, .inr (2, [.ref sg, .int oo, .int xx])), (sg, .inl (cJ, 8, .inr (.inr (.inr (.inr tg))))), (fo, .inr (1, [.ref ff, .ref fg, .int bs, .int bp, .int bt])), (ff, .inl (cI, 301, .inl hh)), (fg, .inl (cI, 301, .inl gg)), (ou, .inl (cL, 1, .inr (.inl fo9)))] ++ va_pl LP (gF cI pl pr)) sz) := by
  refine va_MetW (hh := [(0, 9, 12, 25)]) (cc := cL_fit) (maxL := 4) (ret := (some .int)) (by decide) rfl ?_
  intro p e s m args below meth c s₁ B hml hv
  obtain ⟨rfl, hsz, hP, hK, hD0⟩ := hv
  have hx := B.exec
  have hb := B.bytes
  have hr := B.returns
  have hts := atoms_spec (ws := wsL_fit) B.pre
  have hown : s.vm.findClass RL = some m.cls := findClass_of_methodNamed B.named
  have hlocks := B.notSynchronized
  subst hsz
  have hD := hD0.self (sz := s.heap.size)
  generalize hAe : va_A ([(x, .inr (5, [.ref xp, .ref xt, .ref so, .ref g, .ref sc, .ref fo, .int sof])), (xp, .inr (4, [.ref xpa, .int (nI mm)])), (xpa, .inl (cI, 150, .inl pp)), (xt, .inr (4, [.ref xta, .int (nI nn)])), (xta, .inl (cI, 300, .inl tt)), (so, .inr (2, [.ref sg, .int oo, .int xx])), (sg, .inl (cJ, 8, .inr (.inr (.inr (.inr tg))))), (fo, .inr (1, [.ref ff, .ref fg, .int bs, .int bp, .int bt])), (ff, .inl (cI, 301, .inl hh)), (fg, .inl (cI, 301, .inl gg)), (ou, .inl (cL, 1, .inr (.inl fo9)))] ++ va_pl LP (gF cI pl pr)) s.heap.size = A at hD ⊢
  have hA : ∀ q : Nat, s.heap.size ≤ q → A q := fun q h => by rw [← hAe]; exact Or.inr h
  have hl := lv_entry ([.ref x, .int mode, .ref ou]) (n := 4) (Nat.le_of_ble_eq_true rfl)
  rw [lg_entry_eq]
  generalize (lg_sl ([.ref x, .int mode, .ref ou]) ++ List.replicate (4 - (lg_sl ([.ref x, .int mode, .ref ou])).length) Slot.unset).toArray = ls at hl ⊢
  have hl : lv_has ls 4 [(0, .ref x), (1, .int mode), (2, .ref ou)] := hl
  refine hv_start (A := A) (ws := ([(x, .inr (5, [.ref xp, .ref xt, .ref so, .ref g, .ref sc, .ref fo, .int sof])), (xp, .inr (4, [.ref xpa, .int (nI mm)])), (xpa, .inl (cI, 150, .inl pp)), (xt, .inr (4, [.ref xta, .int (nI nn)])), (xta, .inl (cI, 300, .inl tt)), (so, .inr (2, [.ref sg, .int oo, .int xx])), (sg, .inl (cJ, 8, .inr (.inr (.inr (.inr tg))))), (fo, .inr (1, [.ref ff, .ref fg, .int bs, .int bp, .int bt])), (ff, .inl (cI, 301, .inl hh)), (fg, .inl (cI, 301, .inl gg)), (ou, .inl (cL, 1, .inr (.inl fo9)))] ++ va_pl LP (gF cI pl pr))) hP (fun H locs hP hS => ?_)
  refine lv_aload_n hx hb dL_fit_0 rfl (lv_at hl 2 rfl) ?_
  refine lv_iconst (v := 0) hx hb dL_fit_1 (by decide) ?_
  refine lv_aload_n hx hb dL_fit_2 rfl (lv_at hl 0 rfl) ?_
  refine lv_iload_n hx hb dL_fit_3 rfl (lv_at hl 1 rfl) ?_
  have fr := fr_p (X := [(x, .inr (5, [.ref xp, .ref xt, .ref so, .ref g, .ref sc, .ref fo, .int sof])), (xp, .inr (4, [.ref xpa, .int (nI mm)])), (xpa, .inl (cI, 150, .inl pp)), (xt, .inr (4, [.ref xta, .int (nI nn)])), (xta, .inl (cI, 300, .inl tt)), (so, .inr (2, [.ref sg, .int oo, .int xx])), (sg, .inl (cJ, 8, .inr (.inr (.inr (.inr tg))))), (fo, .inr (1, [.ref ff, .ref fg, .int bs, .int bp, .int bt])), (ff, .inl (cI, 301, .inl hh)), (fg, .inl (cI, 301, .inl gg)), (ou, .inl (cL, 1, .inr (.inl fo9)))]) (cx := [(x, .inr (5, [.ref xp, .ref xt, .ref so, .ref g, .ref sc, .ref fo, .int sof])), (xp, .inr (4, [.ref xpa, .int (nI mm)])), (xpa, .inl (cI, 150, .inl pp)), (xt, .inr (4, [.ref xta, .int (nI nn)])), (xta, .inl (cI, 300, .inl tt)), (so, .inr (2, [.ref sg, .int oo, .int xx])), (sg, .inl (cJ, 8, .inr (.inr (.inr (.inr tg))))), (fo, .inr (1, [.ref ff, .ref fg, .int bs, .int bp, .int bt])), (ff, .inl (cI, 301, .inl hh)), (fg, .inl (cI, 301, .inl gg))]) (wr := [(ou, .inl (cL, 1, .inr (.inl fo9)))]) (pl := va_pl LP (gF cI pl pr)) hP hD hS hA [0, 1, 2, 3, 4, 5, 6, 7, 8, 9] [10] rfl rfl (by decide) (by decide) (by decide)
  refine cv_i (J := fun u => ([(x, .inr (5, [.ref xp, .ref xt, .ref so, .ref g, .ref sc, .ref fo, .int sof])), (xp, .inr (4, [.ref xpa, .int (nI mm)])), (xpa, .inl (cI, 150, .inl pp)), (xt, .inr (4, [.ref xta, .int (nI nn)])), (xta, .inl (cI, 300, .inl tt)), (so, .inr (2, [.ref sg, .int oo, .int xx])), (sg, .inl (cJ, 8, .inr (.inr (.inr (.inr tg))))), (fo, .inr (1, [.ref ff, .ref fg, .int ((pf_best (fun i j => (pf_cr true oo xx (fun i j => tb (pf_kd (pp i)) (pf_kd (tt j))) i).1 j) nn mm).1), .int ((pf_best (fun i j => (pf_cr true oo xx (fun i j => tb (pf_kd (pp i)) (pf_kd (tt j))) i).1 j) nn mm).2.1), .int ((pf_best (fun i j => (pf_cr true oo xx (fun i j => tb (pf_kd (pp i)) (pf_kd (tt j))) i).1 j) nn mm).2.2)])), (ff, .inl (cI, 301, .inl u.1)), (fg, .inl (cI, 301, .inl u.2)), (ou, .inl (cL, 1, .inr (.inl fo9)))] ++ va_pl LP (gF cI pl pr))) (As := [.int mode]) (rest := [.int 0, .ref ou]) (q0 := 0) (ci := 5) ⟨hx, hb, hml, hown, hts⟩ (c_X5_fit_1 l D cI cJ cL H.size x xp xt so g sc fo sof xpa mm pp xta nn tt sg oo xx tg ff fg bs bp bt hh gg LP pl pr tb mode hG hmm hnn hpp htt h0) (cwV 1 hts gL_fit_X5_fit rfl rfl rfl (by decide +kernel) ⟨Nat.le_of_ble_eq_true rfl, Nat.le_of_ble_eq_true rfl⟩) hK fr.1 fr.2.1 fr.2.2.1 (fun H1 u hk h1 h2 => ⟨(fr.2.2.2 _ _ H1 hk h1 h2).1.part [1, 2, 3, 4, 5, 6, 7, 8, 9, 10, 0] rfl, (fr.2.2.2 _ _ H1 hk h1 h2).2.part [1, 2, 3, 4, 5, 6, 7, 8, 9, 10, 0] (by decide) rfl⟩) hS rfl rfl rfl rfl hl.1 rfl (Nat.le_of_ble_eq_true rfl) dL_fit_4 ⟨Nat.zero_le _, Nat.zero_le _⟩ (fun r_2 u_1 H locs hw hP hD hS => ?_)
  refine lv_cv (y := (pf_best (fun i j => (pf_cr true oo xx (fun i j => tb (pf_kd (pp i)) (pf_kd (tt j))) i).1 j) nn mm).1) hw ?_
  refine lv_i2l hx hb dL_fit_7 rfl ?_
  refine va_lastN hx hb hK hP hD hS 10 2 rfl rfl (x := ((pf_best (fun i j => (pf_cr true oo xx (fun i j => tb (pf_kd (pp i)) (pf_kd (tt j))) i).1 j) nn mm).1).toInt64) (by decide) (by decide) dL_fit_8 (fun H locs hP hD hS => ?_)
  have hP : va_P D vwCl ([(x, .inr (5, [.ref xp, .ref xt, .ref so, .ref g, .ref sc, .ref fo, .int sof])), (xp, .inr (4, [.ref xpa, .int (nI mm)])), (xpa, .inl (cI, 150, .inl pp)), (xt, .inr (4, [.ref xta, .int (nI nn)])), (xta, .inl (cI, 300, .inl tt)), (so, .inr (2, [.ref sg, .int oo, .int xx])), (sg, .inl (cJ, 8, .inr (.inr (.inr (.inr tg))))), (fo, .inr (1, [.ref ff, .ref fg, .int ((pf_best (fun i j => (pf_cr true oo xx (fun i j => tb (pf_kd (pp i)) (pf_kd (tt j))) i).1 j) nn mm).1), .int ((pf_best (fun i j => (pf_cr true oo xx (fun i j => tb (pf_kd (pp i)) (pf_kd (tt j))) i).1 j) nn mm).2.1), .int ((pf_best (fun i j => (pf_cr true oo xx (fun i j => tb (pf_kd (pp i)) (pf_kd (tt j))) i).1 j) nn mm).2.2)])), (ff, .inl (cI, 301, .inl u_1.1)), (fg, .inl (cI, 301, .inl u_1.2)), (ou, .inl (cL, 1, .inr (.inl (vp_updL fo9 0 (((pf_best (fun i j => (pf_cr true oo xx (fun i j => tb (pf_kd (pp i)) (pf_kd (tt j))) i).1 j) nn mm).1).toInt64)))))] ++ va_pl LP (gF cI pl pr)) H := hP
  have hD : va_D A ([(x, .inr (5, [.ref xp, .ref xt, .ref so, .ref g, .ref sc, .ref fo, .int sof])), (xp, .inr (4, [.ref xpa, .int (nI mm)])), (xpa, .inl (cI, 150, .inl pp)), (xt, .inr (4, [.ref xta, .int (nI nn)])), (xta, .inl (cI, 300, .inl tt)), (so, .inr (2, [.ref sg, .int oo, .int xx])), (sg, .inl (cJ, 8, .inr (.inr (.inr (.inr tg))))), (fo, .inr (1, [.ref ff, .ref fg, .int ((pf_best (fun i j => (pf_cr true oo xx (fun i j => tb (pf_kd (pp i)) (pf_kd (tt j))) i).1 j) nn mm).1), .int ((pf_best (fun i j => (pf_cr true oo xx (fun i j => tb (pf_kd (pp i)) (pf_kd (tt j))) i).1 j) nn mm).2.1), .int ((pf_best (fun i j => (pf_cr true oo xx (fun i j => tb (pf_kd (pp i)) (pf_kd (tt j))) i).1 j) nn mm).2.2)])), (ff, .inl (cI, 301, .inl u_1.1)), (fg, .inl (cI, 301, .inl u_1.2)), (ou, .inl (cL, 1, .inr (.inl (vp_updL fo9 0 (((pf_best (fun i j => (pf_cr true oo xx (fun i j => tb (pf_kd (pp i)) (pf_kd (tt j))) i).1 j) nn mm).1).toInt64)))))] ++ va_pl LP (gF cI pl pr)) := hD
  refine lv_goto (tgt := 15) hx hb dL_fit_9 (by decide) ?_
  refine lv_iconst (v := 0) hx hb dL_fit_15 (by decide) ?_
  exact fin_i u_1 hx hb hr hlocks dL_fit_16 hK hS hP hD rfl

set_option maxHeartbeats 4000000 in
set_option maxRecDepth 100000 in
theorem c_L_fit_no (l : Launch) (htr : l.stackTraces = false) (D : va_G) (cI cJ cL : ClassId) (sz : Nat) (x : Nat) (xp : Nat) (xt : Nat) (so : Nat) (g : Nat) (sc : Nat) (fo : Nat) (sof : Int32) (mode : Int32) (ou : Nat) (fo9 : Nat → Int64) (h0 : ¬ mode = 0) (h1 : ¬ mode = 1) :
    Met l yL_fit wsL_fit { frames := 7, cells := 1, slots := 6, locals := 111 } (va_Pc [.ref x, .int mode, .ref ou] (Wx D [(cI, .int), (cJ, .array .int), (cL, .long)] [(x, .inr (5, [.ref xp, .ref xt, .ref so, .ref g, .ref sc, .ref fo, .int sof])), (ou, .inl (cL, 1, .inr (.inl fo9)))] sz))
      (va_Qi (fun (r : Int32) (_ : Unit) => r = 1) (fun _ => Wa D [(cI, .int), (cJ, .array .int), (cL, .long)] (va_A [(x, .inr (5, [.ref xp, .ref xt, .ref so, .ref g, .ref sc, .ref fo, .int sof])), (ou, .inl (cL, 1, .inr (.inl fo9)))] sz) ([(x, .inr (5, [.ref xp, .ref xt, .ref so, .ref g, .ref sc, .ref fo, .int sof])), (ou, .inl (cL, 1, .inr (.inl fo9)))])) (va_A [(x, .inr (5, [.ref xp, .ref xt, .ref so, .ref g, .ref sc, .ref fo, .int sof])), (ou, .inl (cL, 1, .inr (.inl fo9)))] sz)) 1 6 (va_A [(x, .inr (5, [.ref xp, .ref xt, .ref so, .ref g, .ref sc, .ref fo, .int sof])), (ou, .inl (cL, 1, .inr (.inl fo9)))] sz) := by
  refine va_MetW (hh := [(0, 9, 12, 25)]) (cc := cL_fit) (maxL := 4) (ret := (some .int)) (by decide) rfl ?_
  intro p e s m args below meth c s₁ B hml hv
  obtain ⟨rfl, ⟨hsz, hP, hK, hD0⟩, hE⟩ := hv
  have htab := vx_table (x := yL_fit) B (atoms_spec (ws := wsL_fit) B.pre _ List.mem_cons_self)
  have hx := B.exec
  have hb := B.bytes
  have hr := B.returns
  have hts := atoms_spec (ws := wsL_fit) B.pre
  have hown : s.vm.findClass RL = some m.cls := findClass_of_methodNamed B.named
  have hlocks := B.notSynchronized
  subst hsz
  have hD := hD0.self (sz := s.heap.size)
  generalize hAe : va_A [(x, .inr (5, [.ref xp, .ref xt, .ref so, .ref g, .ref sc, .ref fo, .int sof])), (ou, .inl (cL, 1, .inr (.inl fo9)))] s.heap.size = A at hD hE ⊢
  have hA : ∀ q : Nat, s.heap.size ≤ q → A q := fun q h => by rw [← hAe]; exact Or.inr h
  have hl := lv_entry ([.ref x, .int mode, .ref ou]) (n := 4) (Nat.le_of_ble_eq_true rfl)
  rw [lg_entry_eq]
  generalize (lg_sl ([.ref x, .int mode, .ref ou]) ++ List.replicate (4 - (lg_sl ([.ref x, .int mode, .ref ou])).length) Slot.unset).toArray = ls at hl ⊢
  have hl : lv_has ls 4 [(0, .ref x), (1, .int mode), (2, .ref ou)] := hl
  refine hv_start (A := A) (ws := [(x, .inr (5, [.ref xp, .ref xt, .ref so, .ref g, .ref sc, .ref fo, .int sof])), (ou, .inl (cL, 1, .inr (.inl fo9)))]) hP (fun H locs hP hS => ?_)
  have w_0 := hts (.classLink RL 25 iae) (by decide +kernel)
  refine lv_aload_n hx hb dL_fit_0 rfl (lv_at hl 2 rfl) ?_
  refine lv_iconst (v := 0) hx hb dL_fit_1 (by decide) ?_
  refine lv_aload_n hx hb dL_fit_2 rfl (lv_at hl 0 rfl) ?_
  refine lv_iload_n hx hb dL_fit_3 rfl (lv_at hl 1 rfl) ?_
  have fr := fr_x (wc := [(x, .inr (5, [.ref xp, .ref xt, .ref so, .ref g, .ref sc, .ref fo, .int sof]))]) (wr := [(ou, .inl (cL, 1, .inr (.inl fo9)))]) hP hD hS hA [0] [1] rfl rfl (by decide) (by decide) (by decide)
  refine cx_v (E0 := iae) (J := fun _ => [(x, .inr (5, [.ref xp, .ref xt, .ref so, .ref g, .ref sc, .ref fo, .int sof])), (ou, .inl (cL, 1, .inr (.inl fo9)))]) (As := [.int mode]) (rest := [.int 0, .ref ou]) (q0 := 0) (ci := 5) ⟨hx, hb, hml, hown, hts⟩ (c_X5_fit_no l htr D cI cJ cL H.size x xp xt so g sc fo sof mode h0 h1) (cwV 1 hts gL_fit_X5_fit rfl rfl rfl (by decide +kernel) ⟨Nat.le_of_ble_eq_true rfl, Nat.le_of_ble_eq_true rfl⟩) hK fr.1 fr.2.1 fr.2.2.1 (fun H1 u hk h1 h2 => ⟨(fr.2.2.2 _ H1 hk h1 h2).1.sub [1, 0] rfl, (fr.2.2.2 _ H1 hk h1 h2).2.sub [1, 0] (by decide) rfl⟩) hS hE rfl rfl rfl rfl hl.1 rfl (Nat.le_of_ble_eq_true rfl) dL_fit_4 ⟨Nat.le_of_ble_eq_true rfl, Nat.le_of_ble_eq_true rfl⟩ (fun ce q9 u9 H locs hw hP hD hS hce hcv hcl => ?_)
  refine vx_catch (own := RL) (name := iae) hown [] ⟨0, 9, 12, 25⟩ [] htab (fun z hz => absurd hz List.not_mem_nil) (by decide) (by decide) w_0 (xK.at hE.2.2.2.2.2 (.castable iae iae) (by decide +kernel)) hce hcv hcl ?_
  refine W.eq (g2 := F0 m 12 ls [.ref q9]) rfl ?_
  refine lv_astore_n (lv' := [(3, .ref q9), (0, .ref x), (1, .int mode), (2, .ref ou)]) hx hb dL_fit_12 rfl hl (by decide) rfl (fun ls hl => ?_)
  refine lv_iconst (v := 1) hx hb dL_fit_13 (by decide) ?_
  refine W.widen (k := 1) (n := 6) (by decide) (by decide) ?_
  exact fin_i () hx hb hr hlocks dL_fit_14 hK hS hP hD rfl

set_option maxHeartbeats 4000000 in
set_option maxRecDepth 100000 in
theorem c_L_count_0 (l : Launch) (D : va_G) (cI cJ cL : ClassId) (sz : Nat) (x : Nat) (xp : Nat) (xt : Nat) (so : Nat) (g : Nat) (sc : Nat) (fo : Nat) (sof : Int32) (xpa : Nat) (mm : Nat) (pp : Nat → Int32) (what : Int32) (ou : Nat) (fo9 : Nat → Int64) (h0 : what = 0) :
    Met l yL_count wsL_count { frames := 2, cells := 0, slots := 0, locals := 41 } (va_Pc [.ref x, .int what, .ref ou] (Wd D [(cI, .int), (cJ, .array .int), (cL, .long)] [(x, .inr (5, [.ref xp, .ref xt, .ref so, .ref g, .ref sc, .ref fo, .int sof])), (xp, .inr (4, [.ref xpa, .int (nI mm)])), (xpa, .inl (cI, 150, .inl pp)), (ou, .inl (cL, 1, .inr (.inl fo9)))] sz))
      (va_Qi (fun (r : Int32) (_ : Unit) => r = 0) (fun _ => Wa D [(cI, .int), (cJ, .array .int), (cL, .long)] (va_A [(x, .inr (5, [.ref xp, .ref xt, .ref so, .ref g, .ref sc, .ref fo, .int sof])), (xp, .inr (4, [.ref xpa, .int (nI mm)])), (xpa, .inl (cI, 150, .inl pp)), (ou, .inl (cL, 1, .inr (.inl fo9)))] sz) ([(x, .inr (5, [.ref xp, .ref xt, .ref so, .ref g, .ref sc, .ref fo, .int sof])), (xp, .inr (4, [.ref xpa, .int (nI mm)])), (xpa, .inl (cI, 150, .inl pp)), (ou, .inl (cL, 1, .inr (.inl (vp_updL fo9 0 (nI mm).toInt64))))])) (va_A [(x, .inr (5, [.ref xp, .ref xt, .ref so, .ref g, .ref sc, .ref fo, .int sof])), (xp, .inr (4, [.ref xpa, .int (nI mm)])), (xpa, .inl (cI, 150, .inl pp)), (ou, .inl (cL, 1, .inr (.inl fo9)))] sz)) 0 0 (va_A [(x, .inr (5, [.ref xp, .ref xt, .ref so, .ref g, .ref sc, .ref fo, .int sof])), (xp, .inr (4, [.ref xpa, .int (nI mm)])), (xpa, .inl (cI, 150, .inl pp)), (ou, .inl (cL, 1, .inr (.inl fo9)))] sz) := by
  refine va_MetW (hh := [(0, 9, 12, 25)]) (cc := cL_count) (maxL := 4) (ret := (some .int)) (by decide) rfl ?_
  intro p e s m args below meth c s₁ B hml hv
  obtain ⟨rfl, hsz, hP, hK, hD0⟩ := hv
  have hx := B.exec
  have hb := B.bytes
  have hr := B.returns
  have hts := atoms_spec (ws := wsL_count) B.pre
  have hown : s.vm.findClass RL = some m.cls := findClass_of_methodNamed B.named
  have hlocks := B.notSynchronized
  subst hsz
  have hD := hD0.self (sz := s.heap.size)
  generalize hAe : va_A [(x, .inr (5, [.ref xp, .ref xt, .ref so, .ref g, .ref sc, .ref fo, .int sof])), (xp, .inr (4, [.ref xpa, .int (nI mm)])), (xpa, .inl (cI, 150, .inl pp)), (ou, .inl (cL, 1, .inr (.inl fo9)))] s.heap.size = A at hD ⊢
  have hA : ∀ q : Nat, s.heap.size ≤ q → A q := fun q h => by rw [← hAe]; exact Or.inr h
  have hl := lv_entry ([.ref x, .int what, .ref ou]) (n := 4) (Nat.le_of_ble_eq_true rfl)
  rw [lg_entry_eq]
  generalize (lg_sl ([.ref x, .int what, .ref ou]) ++ List.replicate (4 - (lg_sl ([.ref x, .int what, .ref ou])).length) Slot.unset).toArray = ls at hl ⊢
  have hl : lv_has ls 4 [(0, .ref x), (1, .int what), (2, .ref ou)] := hl
  refine hv_start (A := A) (ws := [(x, .inr (5, [.ref xp, .ref xt, .ref so, .ref g, .ref sc, .ref fo, .int sof])), (xp, .inr (4, [.ref xpa, .int (nI mm)])), (xpa, .inl (cI, 150, .inl pp)), (ou, .inl (cL, 1, .inr (.inl fo9)))]) hP (fun H locs hP hS => ?_)
  refine lv_aload_n hx hb dL_count_0 rfl (lv_at hl 2 rfl) ?_
  refine lv_iconst (v := 0) hx hb dL_count_1 (by decide) ?_
  refine lv_aload_n hx hb dL_count_2 rfl (lv_at hl 0 rfl) ?_
  refine lv_iload_n hx hb dL_count_3 rfl (lv_at hl 1 rfl) ?_
  have fr := fr_x (wc := [(x, .inr (5, [.ref xp, .ref xt, .ref so, .ref g, .ref sc, .ref fo, .int sof])), (xp, .inr (4, [.ref xpa, .int (nI mm)])), (xpa, .inl (cI, 150, .inl pp))]) (wr := [(ou, .inl (cL, 1, .inr (.inl fo9)))]) hP hD hS hA [0, 1, 2] [3] rfl rfl (by decide) (by decide) (by decide)
  refine cv_i (J := fun _ => [(x, .inr (5, [.ref xp, .ref xt, .ref so, .ref g, .ref sc, .ref fo, .int sof])), (xp, .inr (4, [.ref xpa, .int (nI mm)])), (xpa, .inl (cI, 150, .inl pp)), (ou, .inl (cL, 1, .inr (.inl fo9)))]) (As := [.int what]) (rest := [.int 0, .ref ou]) (q0 := 0) (ci := 5) ⟨hx, hb, hml, hown, hts⟩ (c_X5_count_0 l D cI cJ cL H.size x xp xt so g sc fo sof xpa mm pp what h0) (cwV 1 hts gL_count_X5_count rfl rfl rfl (by decide +kernel) ⟨Nat.le_of_ble_eq_true rfl, Nat.le_of_ble_eq_true rfl⟩) hK fr.1 fr.2.1 fr.2.2.1 (fun H1 u hk h1 h2 => ⟨(fr.2.2.2 _ H1 hk h1 h2).1.sub [1, 2, 3, 0] rfl, (fr.2.2.2 _ H1 hk h1 h2).2.sub [1, 2, 3, 0] (by decide) rfl⟩) hS rfl rfl rfl rfl hl.1 rfl (Nat.le_of_ble_eq_true rfl) dL_count_4 ⟨Nat.zero_le _, Nat.zero_le _⟩ (fun r_2 u_1 H locs hw hP hD hS => ?_)
  refine lv_cv (y := nI mm) hw ?_
  refine lv_i2l hx hb dL_count_7 rfl ?_
  refine va_lastN hx hb hK hP hD hS 3 2 rfl rfl (x := (nI mm).toInt64) (by decide) (by decide) dL_count_8 (fun H locs hP hD hS => ?_)
  have hP : va_P D vwCl [(x, .inr (5, [.ref xp, .ref xt, .ref so, .ref g, .ref sc, .ref fo, .int sof])), (xp, .inr (4, [.ref xpa, .int (nI mm)])), (xpa, .inl (cI, 150, .inl pp)), (ou, .inl (cL, 1, .inr (.inl (vp_updL fo9 0 ((nI mm).toInt64)))))] H := hP
  have hD : va_D A [(x, .inr (5, [.ref xp, .ref xt, .ref so, .ref g, .ref sc, .ref fo, .int sof])), (xp, .inr (4, [.ref xpa, .int (nI mm)])), (xpa, .inl (cI, 150, .inl pp)), (ou, .inl (cL, 1, .inr (.inl (vp_updL fo9 0 ((nI mm).toInt64)))))] := hD
  refine lv_goto (tgt := 15) hx hb dL_count_9 (by decide) ?_
  refine lv_iconst (v := 0) hx hb dL_count_15 (by decide) ?_
  exact fin_i () hx hb hr hlocks dL_count_16 hK hS hP hD rfl

set_option maxHeartbeats 4000000 in
set_option maxRecDepth 100000 in
theorem c_L_count_1 (l : Launch) (D : va_G) (cI cJ cL : ClassId) (sz : Nat) (x : Nat) (xp : Nat) (xt : Nat) (so : Nat) (g : Nat) (sc : Nat) (fo : Nat) (sof : Int32) (xta : Nat) (nn : Nat) (tt : Nat → Int32) (what : Int32) (ou : Nat) (fo9 : Nat → Int64) (h0 : what = 1) :
    Met l yL_count wsL_count { frames := 2, cells := 0, slots := 0, locals := 41 } (va_Pc [.ref x, .int what, .ref ou] (Wd D [(cI, .int), (cJ, .array .int), (cL, .long)] [(x, .inr (5, [.ref xp, .ref xt, .ref so, .ref g, .ref sc, .ref fo, .int sof])), (xt, .inr (4, [.ref xta, .int (nI nn)])), (xta, .inl (cI, 300, .inl tt)), (ou, .inl (cL, 1, .inr (.inl fo9)))] sz))
      (va_Qi (fun (r : Int32) (_ : Unit) => r = 0) (fun _ => Wa D [(cI, .int), (cJ, .array .int), (cL, .long)] (va_A [(x, .inr (5, [.ref xp, .ref xt, .ref so, .ref g, .ref sc, .ref fo, .int sof])), (xt, .inr (4, [.ref xta, .int (nI nn)])), (xta, .inl (cI, 300, .inl tt)), (ou, .inl (cL, 1, .inr (.inl fo9)))] sz) ([(x, .inr (5, [.ref xp, .ref xt, .ref so, .ref g, .ref sc, .ref fo, .int sof])), (xt, .inr (4, [.ref xta, .int (nI nn)])), (xta, .inl (cI, 300, .inl tt)), (ou, .inl (cL, 1, .inr (.inl (vp_updL fo9 0 (nI nn).toInt64))))])) (va_A [(x, .inr (5, [.ref xp, .ref xt, .ref so, .ref g, .ref sc, .ref fo, .int sof])), (xt, .inr (4, [.ref xta, .int (nI nn)])), (xta, .inl (cI, 300, .inl tt)), (ou, .inl (cL, 1, .inr (.inl fo9)))] sz)) 0 0 (va_A [(x, .inr (5, [.ref xp, .ref xt, .ref so, .ref g, .ref sc, .ref fo, .int sof])), (xt, .inr (4, [.ref xta, .int (nI nn)])), (xta, .inl (cI, 300, .inl tt)), (ou, .inl (cL, 1, .inr (.inl fo9)))] sz) := by
  refine va_MetW (hh := [(0, 9, 12, 25)]) (cc := cL_count) (maxL := 4) (ret := (some .int)) (by decide) rfl ?_
  intro p e s m args below meth c s₁ B hml hv
  obtain ⟨rfl, hsz, hP, hK, hD0⟩ := hv
  have hx := B.exec
  have hb := B.bytes
  have hr := B.returns
  have hts := atoms_spec (ws := wsL_count) B.pre
  have hown : s.vm.findClass RL = some m.cls := findClass_of_methodNamed B.named
  have hlocks := B.notSynchronized
  subst hsz
  have hD := hD0.self (sz := s.heap.size)
  generalize hAe : va_A [(x, .inr (5, [.ref xp, .ref xt, .ref so, .ref g, .ref sc, .ref fo, .int sof])), (xt, .inr (4, [.ref xta, .int (nI nn)])), (xta, .inl (cI, 300, .inl tt)), (ou, .inl (cL, 1, .inr (.inl fo9)))] s.heap.size = A at hD ⊢
  have hA : ∀ q : Nat, s.heap.size ≤ q → A q := fun q h => by rw [← hAe]; exact Or.inr h
  have hl := lv_entry ([.ref x, .int what, .ref ou]) (n := 4) (Nat.le_of_ble_eq_true rfl)
  rw [lg_entry_eq]
  generalize (lg_sl ([.ref x, .int what, .ref ou]) ++ List.replicate (4 - (lg_sl ([.ref x, .int what, .ref ou])).length) Slot.unset).toArray = ls at hl ⊢
  have hl : lv_has ls 4 [(0, .ref x), (1, .int what), (2, .ref ou)] := hl
  refine hv_start (A := A) (ws := [(x, .inr (5, [.ref xp, .ref xt, .ref so, .ref g, .ref sc, .ref fo, .int sof])), (xt, .inr (4, [.ref xta, .int (nI nn)])), (xta, .inl (cI, 300, .inl tt)), (ou, .inl (cL, 1, .inr (.inl fo9)))]) hP (fun H locs hP hS => ?_)
  refine lv_aload_n hx hb dL_count_0 rfl (lv_at hl 2 rfl) ?_
  refine lv_iconst (v := 0) hx hb dL_count_1 (by decide) ?_
  refine lv_aload_n hx hb dL_count_2 rfl (lv_at hl 0 rfl) ?_
  refine lv_iload_n hx hb dL_count_3 rfl (lv_at hl 1 rfl) ?_
  have fr := fr_x (wc := [(x, .inr (5, [.ref xp, .ref xt, .ref so, .ref g, .ref sc, .ref fo, .int sof])), (xt, .inr (4, [.ref xta, .int (nI nn)])), (xta, .inl (cI, 300, .inl tt))]) (wr := [(ou, .inl (cL, 1, .inr (.inl fo9)))]) hP hD hS hA [0, 1, 2] [3] rfl rfl (by decide) (by decide) (by decide)
  refine cv_i (J := fun _ => [(x, .inr (5, [.ref xp, .ref xt, .ref so, .ref g, .ref sc, .ref fo, .int sof])), (xt, .inr (4, [.ref xta, .int (nI nn)])), (xta, .inl (cI, 300, .inl tt)), (ou, .inl (cL, 1, .inr (.inl fo9)))]) (As := [.int what]) (rest := [.int 0, .ref ou]) (q0 := 0) (ci := 5) ⟨hx, hb, hml, hown, hts⟩ (c_X5_count_1 l D cI cJ cL H.size x xp xt so g sc fo sof xta nn tt what h0) (cwV 1 hts gL_count_X5_count rfl rfl rfl (by decide +kernel) ⟨Nat.le_of_ble_eq_true rfl, Nat.le_of_ble_eq_true rfl⟩) hK fr.1 fr.2.1 fr.2.2.1 (fun H1 u hk h1 h2 => ⟨(fr.2.2.2 _ H1 hk h1 h2).1.sub [1, 2, 3, 0] rfl, (fr.2.2.2 _ H1 hk h1 h2).2.sub [1, 2, 3, 0] (by decide) rfl⟩) hS rfl rfl rfl rfl hl.1 rfl (Nat.le_of_ble_eq_true rfl) dL_count_4 ⟨Nat.zero_le _, Nat.zero_le _⟩ (fun r_2 u_1 H locs hw hP hD hS => ?_)
  refine lv_cv (y := nI nn) hw ?_
  refine lv_i2l hx hb dL_count_7 rfl ?_
  refine va_lastN hx hb hK hP hD hS 3 2 rfl rfl (x := (nI nn).toInt64) (by decide) (by decide) dL_count_8 (fun H locs hP hD hS => ?_)
  have hP : va_P D vwCl [(x, .inr (5, [.ref xp, .ref xt, .ref so, .ref g, .ref sc, .ref fo, .int sof])), (xt, .inr (4, [.ref xta, .int (nI nn)])), (xta, .inl (cI, 300, .inl tt)), (ou, .inl (cL, 1, .inr (.inl (vp_updL fo9 0 ((nI nn).toInt64)))))] H := hP
  have hD : va_D A [(x, .inr (5, [.ref xp, .ref xt, .ref so, .ref g, .ref sc, .ref fo, .int sof])), (xt, .inr (4, [.ref xta, .int (nI nn)])), (xta, .inl (cI, 300, .inl tt)), (ou, .inl (cL, 1, .inr (.inl (vp_updL fo9 0 ((nI nn).toInt64)))))] := hD
  refine lv_goto (tgt := 15) hx hb dL_count_9 (by decide) ?_
  refine lv_iconst (v := 0) hx hb dL_count_15 (by decide) ?_
  exact fin_i () hx hb hr hlocks dL_count_16 hK hS hP hD rfl

set_option maxHeartbeats 4000000 in
set_option maxRecDepth 100000 in
theorem c_L_count_2 (l : Launch) (D : va_G) (cI cJ cL : ClassId) (sz : Nat) (x : Nat) (xp : Nat) (xt : Nat) (so : Nat) (g : Nat) (sc : Nat) (fo : Nat) (sof : Int32) (gp : Nat) (gpa : Nat) (gt : Nat) (gta : Nat) (ge : Nat) (gd : Nat) (gs : Nat) (gn : Nat) (gl : Nat) (om : Nat) (on : Nat) (cnt : Nat) (op : Nat → Int32) (ot : Nat → Int32) (fe : Nat → Int32) (fd : Nat → Int32) (fs : Nat → Int32) (fn : Nat → Int32) (fl : Nat → Int32) (what : Int32) (ou : Nat) (fo9 : Nat → Int64) (h0 : what = 2) :
    Met l yL_count wsL_count { frames := 2, cells := 0, slots := 0, locals := 41 } (va_Pc [.ref x, .int what, .ref ou] (Wd D [(cI, .int), (cJ, .array .int), (cL, .long)] [(x, .inr (5, [.ref xp, .ref xt, .ref so, .ref g, .ref sc, .ref fo, .int sof])), (g, .inr (0, [.ref gp, .ref gt, .ref ge, .ref gd, .ref gs, .int (nI cnt), .ref gn, .ref gl])), (gp, .inr (4, [.ref gpa, .int (nI om)])), (gpa, .inl (cI, 150, .inl op)), (gt, .inr (4, [.ref gta, .int (nI on)])), (gta, .inl (cI, 300, .inl ot)), (ge, .inl (cI, 301, .inl fe)), (gd, .inl (cI, 301, .inl fd)), (gs, .inl (cI, 301, .inl fs)), (gn, .inl (cI, 151, .inl fn)), (gl, .inl (cI, 151, .inl fl)), (ou, .inl (cL, 1, .inr (.inl fo9)))] sz))
      (va_Qi (fun (r : Int32) (_ : Unit) => r = 0) (fun _ => Wa D [(cI, .int), (cJ, .array .int), (cL, .long)] (va_A [(x, .inr (5, [.ref xp, .ref xt, .ref so, .ref g, .ref sc, .ref fo, .int sof])), (g, .inr (0, [.ref gp, .ref gt, .ref ge, .ref gd, .ref gs, .int (nI cnt), .ref gn, .ref gl])), (gp, .inr (4, [.ref gpa, .int (nI om)])), (gpa, .inl (cI, 150, .inl op)), (gt, .inr (4, [.ref gta, .int (nI on)])), (gta, .inl (cI, 300, .inl ot)), (ge, .inl (cI, 301, .inl fe)), (gd, .inl (cI, 301, .inl fd)), (gs, .inl (cI, 301, .inl fs)), (gn, .inl (cI, 151, .inl fn)), (gl, .inl (cI, 151, .inl fl)), (ou, .inl (cL, 1, .inr (.inl fo9)))] sz) ([(x, .inr (5, [.ref xp, .ref xt, .ref so, .ref g, .ref sc, .ref fo, .int sof])), (g, .inr (0, [.ref gp, .ref gt, .ref ge, .ref gd, .ref gs, .int (nI cnt), .ref gn, .ref gl])), (gp, .inr (4, [.ref gpa, .int (nI om)])), (gpa, .inl (cI, 150, .inl op)), (gt, .inr (4, [.ref gta, .int (nI on)])), (gta, .inl (cI, 300, .inl ot)), (ge, .inl (cI, 301, .inl fe)), (gd, .inl (cI, 301, .inl fd)), (gs, .inl (cI, 301, .inl fs)), (gn, .inl (cI, 151, .inl fn)), (gl, .inl (cI, 151, .inl fl)), (ou, .inl (cL, 1, .inr (.inl (vp_updL fo9 0 (nI cnt).toInt64))))])) (va_A [(x, .inr (5, [.ref xp, .ref xt, .ref so, .ref g, .ref sc, .ref fo, .int sof])), (g, .inr (0, [.ref gp, .ref gt, .ref ge, .ref gd, .ref gs, .int (nI cnt), .ref gn, .ref gl])), (gp, .inr (4, [.ref gpa, .int (nI om)])), (gpa, .inl (cI, 150, .inl op)), (gt, .inr (4, [.ref gta, .int (nI on)])), (gta, .inl (cI, 300, .inl ot)), (ge, .inl (cI, 301, .inl fe)), (gd, .inl (cI, 301, .inl fd)), (gs, .inl (cI, 301, .inl fs)), (gn, .inl (cI, 151, .inl fn)), (gl, .inl (cI, 151, .inl fl)), (ou, .inl (cL, 1, .inr (.inl fo9)))] sz)) 0 0 (va_A [(x, .inr (5, [.ref xp, .ref xt, .ref so, .ref g, .ref sc, .ref fo, .int sof])), (g, .inr (0, [.ref gp, .ref gt, .ref ge, .ref gd, .ref gs, .int (nI cnt), .ref gn, .ref gl])), (gp, .inr (4, [.ref gpa, .int (nI om)])), (gpa, .inl (cI, 150, .inl op)), (gt, .inr (4, [.ref gta, .int (nI on)])), (gta, .inl (cI, 300, .inl ot)), (ge, .inl (cI, 301, .inl fe)), (gd, .inl (cI, 301, .inl fd)), (gs, .inl (cI, 301, .inl fs)), (gn, .inl (cI, 151, .inl fn)), (gl, .inl (cI, 151, .inl fl)), (ou, .inl (cL, 1, .inr (.inl fo9)))] sz) := by
  refine va_MetW (hh := [(0, 9, 12, 25)]) (cc := cL_count) (maxL := 4) (ret := (some .int)) (by decide) rfl ?_
  intro p e s m args below meth c s₁ B hml hv
  obtain ⟨rfl, hsz, hP, hK, hD0⟩ := hv
  have hx := B.exec
  have hb := B.bytes
  have hr := B.returns
  have hts := atoms_spec (ws := wsL_count) B.pre
  have hown : s.vm.findClass RL = some m.cls := findClass_of_methodNamed B.named
  have hlocks := B.notSynchronized
  subst hsz
  have hD := hD0.self (sz := s.heap.size)
  generalize hAe : va_A [(x, .inr (5, [.ref xp, .ref xt, .ref so, .ref g, .ref sc, .ref fo, .int sof])), (g, .inr (0, [.ref gp, .ref gt, .ref ge, .ref gd, .ref gs, .int (nI cnt), .ref gn, .ref gl])), (gp, .inr (4, [.ref gpa, .int (nI om)])), (gpa, .inl (cI, 150, .inl op)), (gt, .inr (4, [.ref gta, .int (nI on)])), (gta, .inl (cI, 300, .inl ot)), (ge, .inl (cI, 301, .inl fe)), (gd, .inl (cI, 301, .inl fd)), (gs, .inl (cI, 301, .inl fs)), (gn, .inl (cI, 151, .inl fn)), (gl, .inl (cI, 151, .inl fl)), (ou, .inl (cL, 1, .inr (.inl fo9)))] s.heap.size = A at hD ⊢
  have hA : ∀ q : Nat, s.heap.size ≤ q → A q := fun q h => by rw [← hAe]; exact Or.inr h
  have hl := lv_entry ([.ref x, .int what, .ref ou]) (n := 4) (Nat.le_of_ble_eq_true rfl)
  rw [lg_entry_eq]
  generalize (lg_sl ([.ref x, .int what, .ref ou]) ++ List.replicate (4 - (lg_sl ([.ref x, .int what, .ref ou])).length) Slot.unset).toArray = ls at hl ⊢
  have hl : lv_has ls 4 [(0, .ref x), (1, .int what), (2, .ref ou)] := hl
  refine hv_start (A := A) (ws := [(x, .inr (5, [.ref xp, .ref xt, .ref so, .ref g, .ref sc, .ref fo, .int sof])), (g, .inr (0, [.ref gp, .ref gt, .ref ge, .ref gd, .ref gs, .int (nI cnt), .ref gn, .ref gl])), (gp, .inr (4, [.ref gpa, .int (nI om)])), (gpa, .inl (cI, 150, .inl op)), (gt, .inr (4, [.ref gta, .int (nI on)])), (gta, .inl (cI, 300, .inl ot)), (ge, .inl (cI, 301, .inl fe)), (gd, .inl (cI, 301, .inl fd)), (gs, .inl (cI, 301, .inl fs)), (gn, .inl (cI, 151, .inl fn)), (gl, .inl (cI, 151, .inl fl)), (ou, .inl (cL, 1, .inr (.inl fo9)))]) hP (fun H locs hP hS => ?_)
  refine lv_aload_n hx hb dL_count_0 rfl (lv_at hl 2 rfl) ?_
  refine lv_iconst (v := 0) hx hb dL_count_1 (by decide) ?_
  refine lv_aload_n hx hb dL_count_2 rfl (lv_at hl 0 rfl) ?_
  refine lv_iload_n hx hb dL_count_3 rfl (lv_at hl 1 rfl) ?_
  have fr := fr_x (wc := [(x, .inr (5, [.ref xp, .ref xt, .ref so, .ref g, .ref sc, .ref fo, .int sof])), (g, .inr (0, [.ref gp, .ref gt, .ref ge, .ref gd, .ref gs, .int (nI cnt), .ref gn, .ref gl])), (gp, .inr (4, [.ref gpa, .int (nI om)])), (gpa, .inl (cI, 150, .inl op)), (gt, .inr (4, [.ref gta, .int (nI on)])), (gta, .inl (cI, 300, .inl ot)), (ge, .inl (cI, 301, .inl fe)), (gd, .inl (cI, 301, .inl fd)), (gs, .inl (cI, 301, .inl fs)), (gn, .inl (cI, 151, .inl fn)), (gl, .inl (cI, 151, .inl fl))]) (wr := [(ou, .inl (cL, 1, .inr (.inl fo9)))]) hP hD hS hA [0, 1, 2, 3, 4, 5, 6, 7, 8, 9, 10] [11] rfl rfl (by decide) (by decide) (by decide)
  refine cv_i (J := fun _ => [(x, .inr (5, [.ref xp, .ref xt, .ref so, .ref g, .ref sc, .ref fo, .int sof])), (g, .inr (0, [.ref gp, .ref gt, .ref ge, .ref gd, .ref gs, .int (nI cnt), .ref gn, .ref gl])), (gp, .inr (4, [.ref gpa, .int (nI om)])), (gpa, .inl (cI, 150, .inl op)), (gt, .inr (4, [.ref gta, .int (nI on)])), (gta, .inl (cI, 300, .inl ot)), (ge, .inl (cI, 301, .inl fe)), (gd, .inl (cI, 301, .inl fd)), (gs, .inl (cI, 301, .inl fs)), (gn, .inl (cI, 151, .inl fn)), (gl, .inl (cI, 151, .inl fl)), (ou, .inl (cL, 1, .inr (.inl fo9)))]) (As := [.int what]) (rest := [.int 0, .ref ou]) (q0 := 0) (ci := 5) ⟨hx, hb, hml, hown, hts⟩ (c_X5_count_2 l D cI cJ cL H.size x xp xt so g sc fo sof gp gpa gt gta ge gd gs gn gl om on cnt op ot fe fd fs fn fl what h0) (cwV 1 hts gL_count_X5_count rfl rfl rfl (by decide +kernel) ⟨Nat.le_of_ble_eq_true rfl, Nat.le_of_ble_eq_true rfl⟩) hK fr.1 fr.2.1 fr.2.2.1 (fun H1 u hk h1 h2 => ⟨(fr.2.2.2 _ H1 hk h1 h2).1.sub [1, 2, 3, 4, 5, 6, 7, 8, 9, 10, 11, 0] rfl, (fr.2.2.2 _ H1 hk h1 h2).2.sub [1, 2, 3, 4, 5, 6, 7, 8, 9, 10, 11, 0] (by decide) rfl⟩) hS rfl rfl rfl rfl hl.1 rfl (Nat.le_of_ble_eq_true rfl) dL_count_4 ⟨Nat.zero_le _, Nat.zero_le _⟩ (fun r_2 u_1 H locs hw hP hD hS => ?_)
  refine lv_cv (y := nI cnt) hw ?_
  refine lv_i2l hx hb dL_count_7 rfl ?_
  refine va_lastN hx hb hK hP hD hS 11 2 rfl rfl (x := (nI cnt).toInt64) (by decide) (by decide) dL_count_8 (fun H locs hP hD hS => ?_)
  have hP : va_P D vwCl [(x, .inr (5, [.ref xp, .ref xt, .ref so, .ref g, .ref sc, .ref fo, .int sof])), (g, .inr (0, [.ref gp, .ref gt, .ref ge, .ref gd, .ref gs, .int (nI cnt), .ref gn, .ref gl])), (gp, .inr (4, [.ref gpa, .int (nI om)])), (gpa, .inl (cI, 150, .inl op)), (gt, .inr (4, [.ref gta, .int (nI on)])), (gta, .inl (cI, 300, .inl ot)), (ge, .inl (cI, 301, .inl fe)), (gd, .inl (cI, 301, .inl fd)), (gs, .inl (cI, 301, .inl fs)), (gn, .inl (cI, 151, .inl fn)), (gl, .inl (cI, 151, .inl fl)), (ou, .inl (cL, 1, .inr (.inl (vp_updL fo9 0 ((nI cnt).toInt64)))))] H := hP
  have hD : va_D A [(x, .inr (5, [.ref xp, .ref xt, .ref so, .ref g, .ref sc, .ref fo, .int sof])), (g, .inr (0, [.ref gp, .ref gt, .ref ge, .ref gd, .ref gs, .int (nI cnt), .ref gn, .ref gl])), (gp, .inr (4, [.ref gpa, .int (nI om)])), (gpa, .inl (cI, 150, .inl op)), (gt, .inr (4, [.ref gta, .int (nI on)])), (gta, .inl (cI, 300, .inl ot)), (ge, .inl (cI, 301, .inl fe)), (gd, .inl (cI, 301, .inl fd)), (gs, .inl (cI, 301, .inl fs)), (gn, .inl (cI, 151, .inl fn)), (gl, .inl (cI, 151, .inl fl)), (ou, .inl (cL, 1, .inr (.inl (vp_updL fo9 0 ((nI cnt).toInt64)))))] := hD
  refine lv_goto (tgt := 15) hx hb dL_count_9 (by decide) ?_
  refine lv_iconst (v := 0) hx hb dL_count_15 (by decide) ?_
  exact fin_i () hx hb hr hlocks dL_count_16 hK hS hP hD rfl

set_option maxHeartbeats 4000000 in
set_option maxRecDepth 100000 in
theorem c_L_count_3 (l : Launch) (D : va_G) (cI cJ cL : ClassId) (sz : Nat) (x : Nat) (xp : Nat) (xt : Nat) (so : Nat) (g : Nat) (sc : Nat) (fo : Nat) (sof : Int32) (xpa : Nat) (mm : Nat) (pp : Nat → Int32) (xta : Nat) (nn : Nat) (tt : Nat → Int32) (sg : Nat) (oo : Int32) (xx : Int32) (tg : Nat → Option Nat) (ff : Nat) (fg : Nat) (bs : Int32) (bp : Int32) (bt : Int32) (hh : Nat → Int32) (gg : Nat → Int32) (LP : List Nat) (pl : Nat → Nat) (pr : Nat → Nat → Int32) (tb : Nat → Nat → Int32) (what : Int32) (ou : Nat) (fo9 : Nat → Int64) (hG : gr_ok tg LP pl pr 8 8 tb) (hmm : mm ≤ 150) (hnn : nn ≤ 300) (hpp : ∀ i, i < mm → pf_sg (pp i)) (htt : ∀ j, j < nn → pf_sg (tt j)) (h0 : what = 3) :
    Met l yL_count wsL_count { frames := 4, cells := 0, slots := 0, locals := 100 } (va_Pc [.ref x, .int what, .ref ou] (Wd D [(cI, .int), (cJ, .array .int), (cL, .long)] ([(x, .inr (5, [.ref xp, .ref xt, .ref so, .ref g, .ref sc, .ref fo, .int sof])), (xp, .inr (4, [.ref xpa, .int (nI mm)])), (xpa, .inl (cI, 150, .inl pp)), (xt, .inr (4, [.ref xta, .int (nI nn)])), (xta, .inl (cI, 300, .inl tt)), (so, .inr (2, [.ref sg, .int oo, .int xx])), (sg, .inl (cJ, 8, .inr (.inr (.inr (.inr tg))))), (fo, .inr (1, [.ref ff, .ref fg, .int bs, .int bp, .int bt])), (ff, .inl (cI, 301, .inl hh)), (fg, .inl (cI, 301, .inl gg)), (ou, .inl (cL, 1, .inr (.inl fo9)))] ++ va_pl LP (gF cI pl pr)) sz))
      (va_Qi (fun (r : Int32) (u : (Nat → Int32) × (Nat → Int32)) => r = 0) (fun u => Wa D [(cI, .int), (cJ, .array .int), (cL, .long)] (va_A ([(x, .inr (5, [.ref xp, .ref xt, .ref so, .ref g, .ref sc, .ref fo, .int sof])), (xp, .inr (4, [.ref xpa, .int (nI mm)])), (xpa, .inl (cI, 150, .inl pp)), (xt, .inr (4, [.ref xta, .int (nI nn)])), (xta, .inl (cI, 300, .inl tt)), (so, .inr (2, [.ref sg, .int oo, .int xx])), (sg, .inl (cJ, 8, .inr (.inr (.inr (.inr tg))))), (fo, .inr (1, [.ref ff, .ref fg, .int bs, .int bp, .int bt])), (ff, .inl (cI, 301, .inl hh)), (fg, .inl (cI, 301, .inl gg)), (ou, .inl (cL, 1, .inr (.inl fo9)))] ++ va_pl LP (gF cI pl pr)) sz) (([(x, .inr (5, [.ref xp, .ref xt, .ref so, .ref g, .ref sc, .ref fo, .int sof])), (xp, .inr (4, [.ref xpa, .int (nI mm)])), (xpa, .inl (cI, 150, .inl pp)), (xt, .inr (4, [.ref xta, .int (nI nn)])), (xta, .inl (cI, 300, .inl tt)), (so, .inr (2, [.ref sg, .int oo, .int xx])), (sg, .inl (cJ, 8, .inr (.inr (.inr (.inr tg))))), (fo, .inr (1, [.ref ff, .ref fg, .int ((pf_best (fun i j => (pf_cr true oo xx (fun i j => tb (pf_kd (pp i)) (pf_kd (tt j))) i).1 j) nn mm).1), .int ((pf_best (fun i j => (pf_cr true oo xx (fun i j => tb (pf_kd (pp i)) (pf_kd (tt j))) i).1 j) nn mm).2.1), .int ((pf_best (fun i j => (pf_cr true oo xx (fun i j => tb (pf_kd (pp i)) (pf_kd (tt j))) i).1 j) nn mm).2.2)])), (ff, .inl (cI, 301, .inl u.1)), (fg, .inl (cI, 301, .inl u.2)), (ou, .inl (cL, 1, .inr (.inl (vp_updL fo9 0 ((pf_best (fun i j => (pf_cr true oo xx (fun i j => tb (pf_kd (pp i)) (pf_kd (tt j))) i).1 j) nn mm).2.1).toInt64))))] ++ va_pl LP (gF cI pl pr)))) (va_A ([(x, .inr (5, [.ref xp, .ref xt, .ref so, .ref g, .ref sc, .ref fo, .int sof])), (xp, .inr (4, [.ref xpa, .int (nI mm)])), (xpa, .inl (cI, 150, .inl pp)), (xt, .inr (4, [.ref xta, .int (nI nn)])), (xta, .inl (cI, 300, .inl tt)), (so, .inr (2, [.ref sg, .int oo, .int xx])), (sg, .inl (cJ, 8, .inr (.inr (.inr (.inr tg))))), (fo, .inr (1, [.ref ff, .ref fg, .int bs, .int bp, .int bt])), (ff, .inl (cI, 301, .inl hh)), (fg, .inl (cI, 301, .inl gg)), (ou, .inl (cL, 1, .inr (.inl fo9)))] ++ va_pl LP (gF cI pl pr)) sz)) 0 0 (va_A ([(x, .inr (5, [.ref xp, .ref xt, .ref so, .ref g, .ref sc, .ref fo, .int sof])), (xp, .inr (4, [.ref xpa, .int (nI mm)])), (xpa, .inl (cI, 150, .inl pp)), (xt, .inr (4, [.ref xta, .int (nI nn)])), (xta, .inl (cI, 300, .inl tt)), (so, .inr (2, [.ref sg, .int oo, .int xx])), (sg, .inl (cJ, 8, .inr (.inr (.inr (.inr tg))))), (fo, .inr (1, [.ref ff, .ref fg, .int bs, .int bp, .int bt])), (ff, .inl (cI, 301, .inl hh)), (fg, .inl (cI, 301, .inl gg)), (ou, .inl (cL, 1, .inr (.inl fo9)))] ++ va_pl LP (gF cI pl pr)) sz) := by
  refine va_MetW (hh := [(0, 9, 12, 25)]) (cc := cL_count) (maxL := 4) (ret := (some .int)) (by decide) rfl ?_
  intro p e s m args below meth c s₁ B hml hv
  obtain ⟨rfl, hsz, hP, hK, hD0⟩ := hv
  have hx := B.exec
  have hb := B.bytes
  have hr := B.returns
  have hts := atoms_spec (ws := wsL_count) B.pre
  have hown : s.vm.findClass RL = some m.cls := findClass_of_methodNamed B.named
  have hlocks := B.notSynchronized
  subst hsz
  have hD := hD0.self (sz := s.heap.size)
  generalize hAe : va_A ([(x, .inr (5, [.ref xp, .ref xt, .ref so, .ref g, .ref sc, .ref fo, .int sof])), (xp, .inr (4, [.ref xpa, .int (nI mm)])), (xpa, .inl (cI, 150, .inl pp)), (xt, .inr (4, [.ref xta, .int (nI nn)])), (xta, .inl (cI, 300, .inl tt)), (so, .inr (2, [.ref sg, .int oo, .int xx])), (sg, .inl (cJ, 8, .inr (.inr (.inr (.inr tg))))), (fo, .inr (1, [.ref ff, .ref fg, .int bs, .int bp, .int bt])), (ff, .inl (cI, 301, .inl hh)), (fg, .inl (cI, 301, .inl gg)), (ou, .inl (cL, 1, .inr (.inl fo9)))] ++ va_pl LP (gF cI pl pr)) s.heap.size = A at hD ⊢
  have hA : ∀ q : Nat, s.heap.size ≤ q → A q := fun q h => by rw [← hAe]; exact Or.inr h
  have hl := lv_entry ([.ref x, .int what, .ref ou]) (n := 4) (Nat.le_of_ble_eq_true rfl)
  rw [lg_entry_eq]
  generalize (lg_sl ([.ref x, .int what, .ref ou]) ++ List.replicate (4 - (lg_sl ([.ref x, .int what, .ref ou])).length) Slot.unset).toArray = ls at hl ⊢
  have hl : lv_has ls 4 [(0, .ref x), (1, .int what), (2, .ref ou)] := hl
  refine hv_start (A := A) (ws := ([(x, .inr (5, [.ref xp, .ref xt, .ref so, .ref g, .ref sc, .ref fo, .int sof])), (xp, .inr (4, [.ref xpa, .int (nI mm)])), (xpa, .inl (cI, 150, .inl pp)), (xt, .inr (4, [.ref xta, .int (nI nn)])), (xta, .inl (cI, 300, .inl tt)), (so, .inr (2, [.ref sg, .int oo, .int xx])), (sg, .inl (cJ, 8, .inr (.inr (.inr (.inr tg))))), (fo, .inr (1, [.ref ff, .ref fg, .int bs, .int bp, .int bt])), (ff, .inl (cI, 301, .inl hh)), (fg, .inl (cI, 301, .inl gg)), (ou, .inl (cL, 1, .inr (.inl fo9)))] ++ va_pl LP (gF cI pl pr))) hP (fun H locs hP hS => ?_)
  refine lv_aload_n hx hb dL_count_0 rfl (lv_at hl 2 rfl) ?_
  refine lv_iconst (v := 0) hx hb dL_count_1 (by decide) ?_
  refine lv_aload_n hx hb dL_count_2 rfl (lv_at hl 0 rfl) ?_
  refine lv_iload_n hx hb dL_count_3 rfl (lv_at hl 1 rfl) ?_
  have fr := fr_p (X := [(x, .inr (5, [.ref xp, .ref xt, .ref so, .ref g, .ref sc, .ref fo, .int sof])), (xp, .inr (4, [.ref xpa, .int (nI mm)])), (xpa, .inl (cI, 150, .inl pp)), (xt, .inr (4, [.ref xta, .int (nI nn)])), (xta, .inl (cI, 300, .inl tt)), (so, .inr (2, [.ref sg, .int oo, .int xx])), (sg, .inl (cJ, 8, .inr (.inr (.inr (.inr tg))))), (fo, .inr (1, [.ref ff, .ref fg, .int bs, .int bp, .int bt])), (ff, .inl (cI, 301, .inl hh)), (fg, .inl (cI, 301, .inl gg)), (ou, .inl (cL, 1, .inr (.inl fo9)))]) (cx := [(x, .inr (5, [.ref xp, .ref xt, .ref so, .ref g, .ref sc, .ref fo, .int sof])), (xp, .inr (4, [.ref xpa, .int (nI mm)])), (xpa, .inl (cI, 150, .inl pp)), (xt, .inr (4, [.ref xta, .int (nI nn)])), (xta, .inl (cI, 300, .inl tt)), (so, .inr (2, [.ref sg, .int oo, .int xx])), (sg, .inl (cJ, 8, .inr (.inr (.inr (.inr tg))))), (fo, .inr (1, [.ref ff, .ref fg, .int bs, .int bp, .int bt])), (ff, .inl (cI, 301, .inl hh)), (fg, .inl (cI, 301, .inl gg))]) (wr := [(ou, .inl (cL, 1, .inr (.inl fo9)))]) (pl := va_pl LP (gF cI pl pr)) hP hD hS hA [0, 1, 2, 3, 4, 5, 6, 7, 8, 9] [10] rfl rfl (by decide) (by decide) (by decide)
  refine cv_i (J := fun u => ([(x, .inr (5, [.ref xp, .ref xt, .ref so, .ref g, .ref sc, .ref fo, .int sof])), (xp, .inr (4, [.ref xpa, .int (nI mm)])), (xpa, .inl (cI, 150, .inl pp)), (xt, .inr (4, [.ref xta, .int (nI nn)])), (xta, .inl (cI, 300, .inl tt)), (so, .inr (2, [.ref sg, .int oo, .int xx])), (sg, .inl (cJ, 8, .inr (.inr (.inr (.inr tg))))), (fo, .inr (1, [.ref ff, .ref fg, .int ((pf_best (fun i j => (pf_cr true oo xx (fun i j => tb (pf_kd (pp i)) (pf_kd (tt j))) i).1 j) nn mm).1), .int ((pf_best (fun i j => (pf_cr true oo xx (fun i j => tb (pf_kd (pp i)) (pf_kd (tt j))) i).1 j) nn mm).2.1), .int ((pf_best (fun i j => (pf_cr true oo xx (fun i j => tb (pf_kd (pp i)) (pf_kd (tt j))) i).1 j) nn mm).2.2)])), (ff, .inl (cI, 301, .inl u.1)), (fg, .inl (cI, 301, .inl u.2)), (ou, .inl (cL, 1, .inr (.inl fo9)))] ++ va_pl LP (gF cI pl pr))) (As := [.int what]) (rest := [.int 0, .ref ou]) (q0 := 0) (ci := 5) ⟨hx, hb, hml, hown, hts⟩ (c_X5_count_3 l D cI cJ cL H.size x xp xt so g sc fo sof xpa mm pp xta nn tt sg oo xx tg ff fg bs bp bt hh gg LP pl pr tb what hG hmm hnn hpp htt h0) (cwV 1 hts gL_count_X5_count rfl rfl rfl (by decide +kernel) ⟨Nat.le_of_ble_eq_true rfl, Nat.le_of_ble_eq_true rfl⟩) hK fr.1 fr.2.1 fr.2.2.1 (fun H1 u hk h1 h2 => ⟨(fr.2.2.2 _ _ H1 hk h1 h2).1.part [1, 2, 3, 4, 5, 6, 7, 8, 9, 10, 0] rfl, (fr.2.2.2 _ _ H1 hk h1 h2).2.part [1, 2, 3, 4, 5, 6, 7, 8, 9, 10, 0] (by decide) rfl⟩) hS rfl rfl rfl rfl hl.1 rfl (Nat.le_of_ble_eq_true rfl) dL_count_4 ⟨Nat.zero_le _, Nat.zero_le _⟩ (fun r_2 u_1 H locs hw hP hD hS => ?_)
  refine lv_cv (y := (pf_best (fun i j => (pf_cr true oo xx (fun i j => tb (pf_kd (pp i)) (pf_kd (tt j))) i).1 j) nn mm).2.1) hw ?_
  refine lv_i2l hx hb dL_count_7 rfl ?_
  refine va_lastN hx hb hK hP hD hS 10 2 rfl rfl (x := ((pf_best (fun i j => (pf_cr true oo xx (fun i j => tb (pf_kd (pp i)) (pf_kd (tt j))) i).1 j) nn mm).2.1).toInt64) (by decide) (by decide) dL_count_8 (fun H locs hP hD hS => ?_)
  have hP : va_P D vwCl ([(x, .inr (5, [.ref xp, .ref xt, .ref so, .ref g, .ref sc, .ref fo, .int sof])), (xp, .inr (4, [.ref xpa, .int (nI mm)])), (xpa, .inl (cI, 150, .inl pp)), (xt, .inr (4, [.ref xta, .int (nI nn)])), (xta, .inl (cI, 300, .inl tt)), (so, .inr (2, [.ref sg, .int oo, .int xx])), (sg, .inl (cJ, 8, .inr (.inr (.inr (.inr tg))))), (fo, .inr (1, [.ref ff, .ref fg, .int ((pf_best (fun i j => (pf_cr true oo xx (fun i j => tb (pf_kd (pp i)) (pf_kd (tt j))) i).1 j) nn mm).1), .int ((pf_best (fun i j => (pf_cr true oo xx (fun i j => tb (pf_kd (pp i)) (pf_kd (tt j))) i).1 j) nn mm).2.1), .int ((pf_best (fun i j => (pf_cr true oo xx (fun i j => tb (pf_kd (pp i)) (pf_kd (tt j))) i).1 j) nn mm).2.2)])), (ff, .inl (cI, 301, .inl u_1.1)), (fg, .inl (cI, 301, .inl u_1.2)), (ou, .inl (cL, 1, .inr (.inl (vp_updL fo9 0 (((pf_best (fun i j => (pf_cr true oo xx (fun i j => tb (pf_kd (pp i)) (pf_kd (tt j))) i).1 j) nn mm).2.1).toInt64)))))] ++ va_pl LP (gF cI pl pr)) H := hP
  have hD : va_D A ([(x, .inr (5, [.ref xp, .ref xt, .ref so, .ref g, .ref sc, .ref fo, .int sof])), (xp, .inr (4, [.ref xpa, .int (nI mm)])), (xpa, .inl (cI, 150, .inl pp)), (xt, .inr (4, [.ref xta, .int (nI nn)])), (xta, .inl (cI, 300, .inl tt)), (so, .inr (2, [.ref sg, .int oo, .int xx])), (sg, .inl (cJ, 8, .inr (.inr (.inr (.inr tg))))), (fo, .inr (1, [.ref ff, .ref fg, .int ((pf_best (fun i j => (pf_cr true oo xx (fun i j => tb (pf_kd (pp i)) (pf_kd (tt j))) i).1 j) nn mm).1), .int ((pf_best (fun i j => (pf_cr true oo xx (fun i j => tb (pf_kd (pp i)) (pf_kd (tt j))) i).1 j) nn mm).2.1), .int ((pf_best (fun i j => (pf_cr true oo xx (fun i j => tb (pf_kd (pp i)) (pf_kd (tt j))) i).1 j) nn mm).2.2)])), (ff, .inl (cI, 301, .inl u_1.1)), (fg, .inl (cI, 301, .inl u_1.2)), (ou, .inl (cL, 1, .inr (.inl (vp_updL fo9 0 (((pf_best (fun i j => (pf_cr true oo xx (fun i j => tb (pf_kd (pp i)) (pf_kd (tt j))) i).1 j) nn mm).2.1).toInt64)))))] ++ va_pl LP (gF cI pl pr)) := hD
  refine lv_goto (tgt := 15) hx hb dL_count_9 (by decide) ?_
  refine lv_iconst (v := 0) hx hb dL_count_15 (by decide) ?_
  exact fin_i u_1 hx hb hr hlocks dL_count_16 hK hS hP hD rfl

set_option maxHeartbeats 4000000 in
set_option maxRecDepth 100000 in
theorem c_L_count_4 (l : Launch) (D : va_G) (cI cJ cL : ClassId) (sz : Nat) (x : Nat) (xp : Nat) (xt : Nat) (so : Nat) (g : Nat) (sc : Nat) (fo : Nat) (sof : Int32) (xpa : Nat) (mm : Nat) (pp : Nat → Int32) (xta : Nat) (nn : Nat) (tt : Nat → Int32) (sg : Nat) (oo : Int32) (xx : Int32) (tg : Nat → Option Nat) (ff : Nat) (fg : Nat) (bs : Int32) (bp : Int32) (bt : Int32) (hh : Nat → Int32) (gg : Nat → Int32) (LP : List Nat) (pl : Nat → Nat) (pr : Nat → Nat → Int32) (tb : Nat → Nat → Int32) (what : Int32) (ou : Nat) (fo9 : Nat → Int64) (hG : gr_ok tg LP pl pr 8 8 tb) (hmm : mm ≤ 150) (hnn : nn ≤ 300) (hpp : ∀ i, i < mm → pf_sg (pp i)) (htt : ∀ j, j < nn → pf_sg (tt j)) (h0 : what = 4) :
    Met l yL_count wsL_count { frames := 4, cells := 0, slots := 0, locals := 100 } (va_Pc [.ref x, .int what, .ref ou] (Wd D [(cI, .int), (cJ, .array .int), (cL, .long)] ([(x, .inr (5, [.ref xp, .ref xt, .ref so, .ref g, .ref sc, .ref fo, .int sof])), (xp, .inr (4, [.ref xpa, .int (nI mm)])), (xpa, .inl (cI, 150, .inl pp)), (xt, .inr (4, [.ref xta, .int (nI nn)])), (xta, .inl (cI, 300, .inl tt)), (so, .inr (2, [.ref sg, .int oo, .int xx])), (sg, .inl (cJ, 8, .inr (.inr (.inr (.inr tg))))), (fo, .inr (1, [.ref ff, .ref fg, .int bs, .int bp, .int bt])), (ff, .inl (cI, 301, .inl hh)), (fg, .inl (cI, 301, .inl gg)), (ou, .inl (cL, 1, .inr (.inl fo9)))] ++ va_pl LP (gF cI pl pr)) sz))
      (va_Qi (fun (r : Int32) (u : (Nat → Int32) × (Nat → Int32)) => r = 0) (fun u => Wa D [(cI, .int), (cJ, .array .int), (cL, .long)] (va_A ([(x, .inr (5, [.ref xp, .ref xt, .ref so, .ref g, .ref sc, .ref fo, .int sof])), (xp, .inr (4, [.ref xpa, .int (nI mm)])), (xpa, .inl (cI, 150, .inl pp)), (xt, .inr (4, [.ref xta, .int (nI nn)])), (xta, .inl (cI, 300, .inl tt)), (so, .inr (2, [.ref sg, .int oo, .int xx])), (sg, .inl (cJ, 8, .inr (.inr (.inr (.inr tg))))), (fo, .inr (1, [.ref ff, .ref fg, .int bs, .int bp, .int bt])), (ff, .inl (cI, 301, .inl hh)), (fg, .inl (cI, 301, .inl gg)), (ou, .inl (cL, 1, .inr (.inl fo9)))] ++ va_pl LP (gF cI pl pr)) sz) (([(x, .inr (5, [.ref xp, .ref xt, .ref so, .ref g, .ref sc, .ref fo, .int sof])), (xp, .inr (4, [.ref xpa, .int (nI mm)])), (xpa, .inl (cI, 150, .inl pp)), (xt, .inr (4, [.ref xta, .int (nI nn)])), (xta, .inl (cI, 300, .inl tt)), (so, .inr (2, [.ref sg, .int oo, .int xx])), (sg, .inl (cJ, 8, .inr (.inr (.inr (.inr tg))))), (fo, .inr (1, [.ref ff, .ref fg, .int ((pf_best (fun i j => (pf_cr true oo xx (fun i j => tb (pf_kd (pp i)) (pf_kd (tt j))) i).1 j) nn mm).1), .int ((pf_best (fun i j => (pf_cr true oo xx (fun i j => tb (pf_kd (pp i)) (pf_kd (tt j))) i).1 j) nn mm).2.1), .int ((pf_best (fun i j => (pf_cr true oo xx (fun i j => tb (pf_kd (pp i)) (pf_kd (tt j))) i).1 j) nn mm).2.2)])), (ff, .inl (cI, 301, .inl u.1)), (fg, .inl (cI, 301, .inl u.2)), (ou, .inl (cL, 1, .inr (.inl (vp_updL fo9 0 ((pf_best (fun i j => (pf_cr true oo xx (fun i j => tb (pf_kd (pp i)) (pf_kd (tt j))) i).1 j) nn mm).2.2).toInt64))))] ++ va_pl LP (gF cI pl pr)))) (va_A ([(x, .inr (5, [.ref xp, .ref xt, .ref so, .ref g, .ref sc, .ref fo, .int sof])), (xp, .inr (4, [.ref xpa, .int (nI mm)])), (xpa, .inl (cI, 150, .inl pp)), (xt, .inr (4, [.ref xta, .int (nI nn)])), (xta, .inl (cI, 300, .inl tt)), (so, .inr (2, [.ref sg, .int oo, .int xx])), (sg, .inl (cJ, 8, .inr (.inr (.inr (.inr tg))))), (fo, .inr (1, [.ref ff, .ref fg, .int bs, .int bp, .int bt])), (ff, .inl (cI, 301, .inl hh)), (fg, .inl (cI, 301, .inl gg)), (ou, .inl (cL, 1, .inr (.inl fo9)))] ++ va_pl LP (gF cI pl pr)) sz)) 0 0 (va_A ([(x, .inr (5, [.ref xp, .ref xt, .ref so, .ref g, .ref sc, .ref fo, .int sof])), (xp, .inr (4, [.ref xpa, .int (nI mm)])), (xpa, .inl (cI, 150, .inl pp)), (xt, .inr (4, [.ref xta, .int (nI nn)])), (xta, .inl (cI, 300, .inl tt)), (so, .inr (2, [.ref sg, .int oo, .int xx])), (sg, .inl (cJ, 8, .inr (.inr (.inr (.inr tg))))), (fo, .inr (1, [.ref ff, .ref fg, .int bs, .int bp, .int bt])), (ff, .inl (cI, 301, .inl hh)), (fg, .inl (cI, 301, .inl gg)), (ou, .inl (cL, 1, .inr (.inl fo9)))] ++ va_pl LP (gF cI pl pr)) sz) := by
  refine va_MetW (hh := [(0, 9, 12, 25)]) (cc := cL_count) (maxL := 4) (ret := (some .int)) (by decide) rfl ?_
  intro p e s m args below meth c s₁ B hml hv
  obtain ⟨rfl, hsz, hP, hK, hD0⟩ := hv
  have hx := B.exec
  have hb := B.bytes
  have hr := B.returns
  have hts := atoms_spec (ws := wsL_count) B.pre
  have hown : s.vm.findClass RL = some m.cls := findClass_of_methodNamed B.named
  have hlocks := B.notSynchronized
  subst hsz
  have hD := hD0.self (sz := s.heap.size)
  generalize hAe : va_A ([(x, .inr (5, [.ref xp, .ref xt, .ref so, .ref g, .ref sc, .ref fo, .int sof])), (xp, .inr (4, [.ref xpa, .int (nI mm)])), (xpa, .inl (cI, 150, .inl pp)), (xt, .inr (4, [.ref xta, .int (nI nn)])), (xta, .inl (cI, 300, .inl tt)), (so, .inr (2, [.ref sg, .int oo, .int xx])), (sg, .inl (cJ, 8, .inr (.inr (.inr (.inr tg))))), (fo, .inr (1, [.ref ff, .ref fg, .int bs, .int bp, .int bt])), (ff, .inl (cI, 301, .inl hh)), (fg, .inl (cI, 301, .inl gg)), (ou, .inl (cL, 1, .inr (.inl fo9)))] ++ va_pl LP (gF cI pl pr)) s.heap.size = A at hD ⊢
  have hA : ∀ q : Nat, s.heap.size ≤ q → A q := fun q h => by rw [← hAe]; exact Or.inr h
  have hl := lv_entry ([.ref x, .int what, .ref ou]) (n := 4) (Nat.le_of_ble_eq_true rfl)
  rw [lg_entry_eq]
  generalize (lg_sl ([.ref x, .int what, .ref ou]) ++ List.replicate (4 - (lg_sl ([.ref x, .int what, .ref ou])).length) Slot.unset).toArray = ls at hl ⊢
  have hl : lv_has ls 4 [(0, .ref x), (1, .int what), (2, .ref ou)] := hl
  refine hv_start (A := A) (ws := ([(x, .inr (5, [.ref xp, .ref xt, .ref so, .ref g, .ref sc, .ref fo, .int sof])), (xp, .inr (4, [.ref xpa, .int (nI mm)])), (xpa, .inl (cI, 150, .inl pp)), (xt, .inr (4, [.ref xta, .int (nI nn)])), (xta, .inl (cI, 300, .inl tt)), (so, .inr (2, [.ref sg, .int oo, .int xx])), (sg, .inl (cJ, 8, .inr (.inr (.inr (.inr tg))))), (fo, .inr (1, [.ref ff, .ref fg, .int bs, .int bp, .int bt])), (ff, .inl (cI, 301, .inl hh)), (fg, .inl (cI, 301, .inl gg)), (ou, .inl (cL, 1, .inr (.inl fo9)))] ++ va_pl LP (gF cI pl pr))) hP (fun H locs hP hS => ?_)
  refine lv_aload_n hx hb dL_count_0 rfl (lv_at hl 2 rfl) ?_
  refine lv_iconst (v := 0) hx hb dL_count_1 (by decide) ?_
  refine lv_aload_n hx hb dL_count_2 rfl (lv_at hl 0 rfl) ?_
  refine lv_iload_n hx hb dL_count_3 rfl (lv_at hl 1 rfl) ?_
  have fr := fr_p (X := [(x, .inr (5, [.ref xp, .ref xt, .ref so, .ref g, .ref sc, .ref fo, .int sof])), (xp, .inr (4, [.ref xpa, .int (nI mm)])), (xpa, .inl (cI, 150, .inl pp)), (xt, .inr (4, [.ref xta, .int (nI nn)])), (xta, .inl (cI, 300, .inl tt)), (so, .inr (2, [.ref sg, .int oo, .int xx])), (sg, .inl (cJ, 8, .inr (.inr (.inr (.inr tg))))), (fo, .inr (1, [.ref ff, .ref fg, .int bs, .int bp, .int bt])), (ff, .inl (cI, 301, .inl hh)), (fg, .inl (cI, 301, .inl gg)), (ou, .inl (cL, 1, .inr (.inl fo9)))]) (cx := [(x, .inr (5, [.ref xp, .ref xt, .ref so, .ref g, .ref sc, .ref fo, .int sof])), (xp, .inr (4, [.ref xpa, .int (nI mm)])), (xpa, .inl (cI, 150, .inl pp)), (xt, .inr (4, [.ref xta, .int (nI nn)])), (xta, .inl (cI, 300, .inl tt)), (so, .inr (2, [.ref sg, .int oo, .int xx])), (sg, .inl (cJ, 8, .inr (.inr (.inr (.inr tg))))), (fo, .inr (1, [.ref ff, .ref fg, .int bs, .int bp, .int bt])), (ff, .inl (cI, 301, .inl hh)), (fg, .inl (cI, 301, .inl gg))]) (wr := [(ou, .inl (cL, 1, .inr (.inl fo9)))]) (pl := va_pl LP (gF cI pl pr)) hP hD hS hA [0, 1, 2, 3, 4, 5, 6, 7, 8, 9] [10] rfl rfl (by decide) (by decide) (by decide)
  refine cv_i (J := fun u => ([(x, .inr (5, [.ref xp, .ref xt, .ref so, .ref g, .ref sc, .ref fo, .int sof])), (xp, .inr (4, [.ref xpa, .int (nI mm)])), (xpa, .inl (cI, 150, .inl pp)), (xt, .inr (4, [.ref xta, .int (nI nn)])), (xta, .inl (cI, 300, .inl tt)), (so, .inr (2, [.ref sg, .int oo, .int xx])), (sg, .inl (cJ, 8, .inr (.inr (.inr (.inr tg))))), (fo, .inr (1, [.ref ff, .ref fg, .int ((pf_best (fun i j => (pf_cr true oo xx (fun i j => tb (pf_kd (pp i)) (pf_kd (tt j))) i).1 j) nn mm).1), .int ((pf_best (fun i j => (pf_cr true oo xx (fun i j => tb (pf_kd (pp i)) (pf_kd (tt j))) i).1 j) nn mm).2.1), .int ((pf_best (fun i j => (pf_cr true oo xx (fun i j => tb (pf_kd (pp i)) (pf_kd (tt j))) i).1 j) nn mm).2.2)])), (ff, .inl (cI, 301, .inl u.1)), (fg, .inl (cI, 301, .inl u.2)), (ou, .inl (cL, 1, .inr (.inl fo9)))] ++ va_pl LP (gF cI pl pr))) (As := [.int what]) (rest := [.int 0, .ref ou]) (q0 := 0) (ci := 5) ⟨hx, hb, hml, hown, hts⟩ (c_X5_count_4 l D cI cJ cL H.size x xp xt so g sc fo sof xpa mm pp xta nn tt sg oo xx tg ff fg bs bp bt hh gg LP pl pr tb what hG hmm hnn hpp htt h0) (cwV 1 hts gL_count_X5_count rfl rfl rfl (by decide +kernel) ⟨Nat.le_of_ble_eq_true rfl, Nat.le_of_ble_eq_true rfl⟩) hK fr.1 fr.2.1 fr.2.2.1 (fun H1 u hk h1 h2 => ⟨(fr.2.2.2 _ _ H1 hk h1 h2).1.part [1, 2, 3, 4, 5, 6, 7, 8, 9, 10, 0] rfl, (fr.2.2.2 _ _ H1 hk h1 h2).2.part [1, 2, 3, 4, 5, 6, 7, 8, 9, 10, 0] (by decide) rfl⟩) hS rfl rfl rfl rfl hl.1 rfl (Nat.le_of_ble_eq_true rfl) dL_count_4 ⟨Nat.zero_le _, Nat.zero_le _⟩ (fun r_2 u_1 H locs hw hP hD hS => ?_)
  refine lv_cv (y := (pf_best (fun i j => (pf_cr true oo xx (fun i j => tb (pf_kd (pp i)) (pf_kd (tt j))) i).1 j) nn mm).2.2) hw ?_
  refine lv_i2l hx hb dL_count_7 rfl ?_
  refine va_lastN hx hb hK hP hD hS 10 2 rfl rfl (x := ((pf_best (fun i j => (pf_cr true oo xx (fun i j => tb (pf_kd (pp i)) (pf_kd (tt j))) i).1 j) nn mm).2.2).toInt64) (by decide) (by decide) dL_count_8 (fun H locs hP hD hS => ?_)
  have hP : va_P D vwCl ([(x, .inr (5, [.ref xp, .ref xt, .ref so, .ref g, .ref sc, .ref fo, .int sof])), (xp, .inr (4, [.ref xpa, .int (nI mm)])), (xpa, .inl (cI, 150, .inl pp)), (xt, .inr (4, [.ref xta, .int (nI nn)])), (xta, .inl (cI, 300, .inl tt)), (so, .inr (2, [.ref sg, .int oo, .int xx])), (sg, .inl (cJ, 8, .inr (.inr (.inr (.inr tg))))), (fo, .inr (1, [.ref ff, .ref fg, .int ((pf_best (fun i j => (pf_cr true oo xx (fun i j => tb (pf_kd (pp i)) (pf_kd (tt j))) i).1 j) nn mm).1), .int ((pf_best (fun i j => (pf_cr true oo xx (fun i j => tb (pf_kd (pp i)) (pf_kd (tt j))) i).1 j) nn mm).2.1), .int ((pf_best (fun i j => (pf_cr true oo xx (fun i j => tb (pf_kd (pp i)) (pf_kd (tt j))) i).1 j) nn mm).2.2)])), (ff, .inl (cI, 301, .inl u_1.1)), (fg, .inl (cI, 301, .inl u_1.2)), (ou, .inl (cL, 1, .inr (.inl (vp_updL fo9 0 (((pf_best (fun i j => (pf_cr true oo xx (fun i j => tb (pf_kd (pp i)) (pf_kd (tt j))) i).1 j) nn mm).2.2).toInt64)))))] ++ va_pl LP (gF cI pl pr)) H := hP
  have hD : va_D A ([(x, .inr (5, [.ref xp, .ref xt, .ref so, .ref g, .ref sc, .ref fo, .int sof])), (xp, .inr (4, [.ref xpa, .int (nI mm)])), (xpa, .inl (cI, 150, .inl pp)), (xt, .inr (4, [.ref xta, .int (nI nn)])), (xta, .inl (cI, 300, .inl tt)), (so, .inr (2, [.ref sg, .int oo, .int xx])), (sg, .inl (cJ, 8, .inr (.inr (.inr (.inr tg))))), (fo, .inr (1, [.ref ff, .ref fg, .int ((pf_best (fun i j => (pf_cr true oo xx (fun i j => tb (pf_kd (pp i)) (pf_kd (tt j))) i).1 j) nn mm).1), .int ((pf_best (fun i j => (pf_cr true oo xx (fun i j => tb (pf_kd (pp i)) (pf_kd (tt j))) i).1 j) nn mm).2.1), .int ((pf_best (fun i j => (pf_cr true oo xx (fun i j => tb (pf_kd (pp i)) (pf_kd (tt j))) i).1 j) nn mm).2.2)])), (ff, .inl (cI, 301, .inl u_1.1)), (fg, .inl (cI, 301, .inl u_1.2)), (ou, .inl (cL, 1, .inr (.inl (vp_updL fo9 0 (((pf_best (fun i j => (pf_cr true oo xx (fun i j => tb (pf_kd (pp i)) (pf_kd (tt j))) i).1 j) nn mm).2.2).toInt64)))))] ++ va_pl LP (gF cI pl pr)) := hD
  refine lv_goto (tgt := 15) hx hb dL_count_9 (by decide) ?_
  refine lv_iconst (v := 0) hx hb dL_count_15 (by decide) ?_
  exact fin_i u_1 hx hb hr hlocks dL_count_16 hK hS hP hD rfl

set_option maxHeartbeats 4000000 in
set_option maxRecDepth 100000 in
theorem c_L_count_no (l : Launch) (htr : l.stackTraces = false) (D : va_G) (cI cJ cL : ClassId) (sz : Nat) (x : Nat) (xp : Nat) (xt : Nat) (so : Nat) (g : Nat) (sc : Nat) (fo : Nat) (sof : Int32) (what : Int32) (ou : Nat) (fo9 : Nat → Int64) (hw0 : ¬ (0 ≤ what ∧ what ≤ 4)) :
    Met l yL_count wsL_count { frames := 7, cells := 1, slots := 6, locals := 111 } (va_Pc [.ref x, .int what, .ref ou] (Wx D [(cI, .int), (cJ, .array .int), (cL, .long)] [(x, .inr (5, [.ref xp, .ref xt, .ref so, .ref g, .ref sc, .ref fo, .int sof])), (ou, .inl (cL, 1, .inr (.inl fo9)))] sz))
      (va_Qi (fun (r : Int32) (_ : Unit) => r = 1) (fun _ => Wa D [(cI, .int), (cJ, .array .int), (cL, .long)] (va_A [(x, .inr (5, [.ref xp, .ref xt, .ref so, .ref g, .ref sc, .ref fo, .int sof])), (ou, .inl (cL, 1, .inr (.inl fo9)))] sz) ([(x, .inr (5, [.ref xp, .ref xt, .ref so, .ref g, .ref sc, .ref fo, .int sof])), (ou, .inl (cL, 1, .inr (.inl fo9)))])) (va_A [(x, .inr (5, [.ref xp, .ref xt, .ref so, .ref g, .ref sc, .ref fo, .int sof])), (ou, .inl (cL, 1, .inr (.inl fo9)))] sz)) 1 6 (va_A [(x, .inr (5, [.ref xp, .ref xt, .ref so, .ref g, .ref sc, .ref fo, .int sof])), (ou, .inl (cL, 1, .inr (.inl fo9)))] sz) := by
  refine va_MetW (hh := [(0, 9, 12, 25)]) (cc := cL_count) (maxL := 4) (ret := (some .int)) (by decide) rfl ?_
  intro p e s m args below meth c s₁ B hml hv
  obtain ⟨rfl, ⟨hsz, hP, hK, hD0⟩, hE⟩ := hv
  have htab := vx_table (x := yL_count) B (atoms_spec (ws := wsL_count) B.pre _ List.mem_cons_self)
  have hx := B.exec
  have hb := B.bytes
  have hr := B.returns
  have hts := atoms_spec (ws := wsL_count) B.pre
  have hown : s.vm.findClass RL = some m.cls := findClass_of_methodNamed B.named
  have hlocks := B.notSynchronized
  subst hsz
  have hD := hD0.self (sz := s.heap.size)
  generalize hAe : va_A [(x, .inr (5, [.ref xp, .ref xt, .ref so, .ref g, .ref sc, .ref fo, .int sof])), (ou, .inl (cL, 1, .inr (.inl fo9)))] s.heap.size = A at hD hE ⊢
  have hA : ∀ q : Nat, s.heap.size ≤ q → A q := fun q h => by rw [← hAe]; exact Or.inr h
  have hl := lv_entry ([.ref x, .int what, .ref ou]) (n := 4) (Nat.le_of_ble_eq_true rfl)
  rw [lg_entry_eq]
  generalize (lg_sl ([.ref x, .int what, .ref ou]) ++ List.replicate (4 - (lg_sl ([.ref x, .int what, .ref ou])).length) Slot.unset).toArray = ls at hl ⊢
  have hl : lv_has ls 4 [(0, .ref x), (1, .int what), (2, .ref ou)] := hl
  refine hv_start (A := A) (ws := [(x, .inr (5, [.ref xp, .ref xt, .ref so, .ref g, .ref sc, .ref fo, .int sof])), (ou, .inl (cL, 1, .inr (.inl fo9)))]) hP (fun H locs hP hS => ?_)
  have w_0 := hts (.classLink RL 25 iae) (by decide +kernel)
  refine lv_aload_n hx hb dL_count_0 rfl (lv_at hl 2 rfl) ?_
  refine lv_iconst (v := 0) hx hb dL_count_1 (by decide) ?_
  refine lv_aload_n hx hb dL_count_2 rfl (lv_at hl 0 rfl) ?_
  refine lv_iload_n hx hb dL_count_3 rfl (lv_at hl 1 rfl) ?_
  have fr := fr_x (wc := [(x, .inr (5, [.ref xp, .ref xt, .ref so, .ref g, .ref sc, .ref fo, .int sof]))]) (wr := [(ou, .inl (cL, 1, .inr (.inl fo9)))]) hP hD hS hA [0] [1] rfl rfl (by decide) (by decide) (by decide)
  refine cx_v (E0 := iae) (J := fun _ => [(x, .inr (5, [.ref xp, .ref xt, .ref so, .ref g, .ref sc, .ref fo, .int sof])), (ou, .inl (cL, 1, .inr (.inl fo9)))]) (As := [.int what]) (rest := [.int 0, .ref ou]) (q0 := 0) (ci := 5) ⟨hx, hb, hml, hown, hts⟩ (c_X5_count_no l htr D cI cJ cL H.size x xp xt so g sc fo sof what hw0) (cwV 1 hts gL_count_X5_count rfl rfl rfl (by decide +kernel) ⟨Nat.le_of_ble_eq_true rfl, Nat.le_of_ble_eq_true rfl⟩) hK fr.1 fr.2.1 fr.2.2.1 (fun H1 u hk h1 h2 => ⟨(fr.2.2.2 _ H1 hk h1 h2).1.sub [1, 0] rfl, (fr.2.2.2 _ H1 hk h1 h2).2.sub [1, 0] (by decide) rfl⟩) hS hE rfl rfl rfl rfl hl.1 rfl (Nat.le_of_ble_eq_true rfl) dL_count_4 ⟨Nat.le_of_ble_eq_true rfl, Nat.le_of_ble_eq_true rfl⟩ (fun ce q9 u9 H locs hw hP hD hS hce hcv hcl => ?_)
  refine vx_catch (own := RL) (name := iae) hown [] ⟨0, 9, 12, 25⟩ [] htab (fun z hz => absurd hz List.not_mem_nil) (by decide) (by decide) w_0 (xK.at hE.2.2.2.2.2 (.castable iae iae) (by decide +kernel)) hce hcv hcl ?_
  refine W.eq (g2 := F0 m 12 ls [.ref q9]) rfl ?_
  refine lv_astore_n (lv' := [(3, .ref q9), (0, .ref x), (1, .int what), (2, .ref ou)]) hx hb dL_count_12 rfl hl (by decide) rfl (fun ls hl => ?_)
  refine lv_iconst (v := 1) hx hb dL_count_13 (by decide) ?_
  refine W.widen (k := 1) (n := 6) (by decide) (by decide) ?_
  exact fin_i () hx hb hr hlocks dL_count_14 hK hS hP hD rfl
