/-! throws: what a method that throws takes as given of the state, and how a caller takes it -/
def xT : List (Nat × String) := [(55, "there is no such row"), (70, "there would be too many signs"), (84, "mode is not 0 .. 2"), (87, "bound is not 0 .. 450"), (94, "there is no such finding"), (111, "what is not 0 .. 3"), (113, "there is no such step"), (121, "there is no such kind"), (123, "v is not -1000 .. 1000"), (133, "opening is not 0 .. 1000"), (135, "extension is not 0 .. 1000"), (141, "mode is not 0 or 1"), (160, "what is not 0 .. 4")]
def xS (U : State) : Prop := ∀ q ∈ xT, ∃ a : Nat, vk_R RX5 q.1 q.2 a U
def nse : String := "java/util/NoSuchElementException"
def ise : String := "java/lang/IllegalStateException"
def iae : String := "java/lang/IllegalArgumentException"
/-- the words of a throw that no method's list may bear: they hold as long as the classes stay -/
def xB : List Cond := [.castable nse nse, .castable ise ise, .castable iae iae, .declares (Bundle.initS "java/lang/RuntimeException"), .declares (Bundle.initS "java/lang/Exception"), .declares (Bundle.initS Bundle.tN)]
def xK (U : State) : Prop := ∀ w ∈ xB, w.before #[] U = true
theorem xB_ot : ∀ w ∈ xB, w.onTables = true := by decide +kernel
theorem xK.at {args : Array Value} {s : State} (h : xK s) : ∀ w ∈ xB, w.before args s = true := fun w hw => va_tabs (xB_ot w hw) rfl (h w hw)
theorem xK.moved {u U : State} (hvm : u.vm.Alike U.vm) (h : xK u) : xK U := fun w hw => by
  have h1 : w.before #[] (u.setVm U.vm) = true := by
    have h0 := h w hw
    simp only [xB, List.mem_cons, List.not_mem_nil, or_false] at hw
    rcases hw with rfl | rfl | rfl | rfl | rfl | rfl
    · rw [Cond.castable_setVm hvm]; exact h0
    · rw [Cond.castable_setVm hvm]; exact h0
    · rw [Cond.castable_setVm hvm]; exact h0
    · rw [Cond.declares_setVm hvm]; exact h0
    · rw [Cond.declares_setVm hvm]; exact h0
    · rw [Cond.declares_setVm hvm]; exact h0
  exact va_tabs (u := u.setVm U.vm) (xB_ot w hw) rfl h1
def xE (A : Nat → Prop) (U : State) : Prop := vx_Zq Bundle.tN "UNASSIGNED_STACK" Bundle.steD A U U.heap ∧ vx_Zq Bundle.tN "SUPPRESSED_SENTINEL" Bundle.listD A U U.heap ∧ xS U ∧ va_Nc ise nse U ∧ va_Nc iae nse U ∧ xK U
abbrev Wx (D : va_G) (tys : List (ClassId × FieldType)) (ws : va_W) (sz : Nat) (U : State) : Prop := Wd D tys ws sz U ∧ xE (va_A ws sz) U
abbrev xNm : List String := ["java/lang/RuntimeException", "java/lang/Exception"]
theorem rx_0 : decode rNse 0 = .ok (.aload_n 0, 1) := by decide +kernel
theorem rx_1 : decode rNse 1 = .ok (.aload_n 1, 1) := by decide +kernel
theorem rx_2 : decode rNse 2 = .ok (.invokespecial 13, 3) := by decide +kernel
theorem rx_5 : decode rNse 5 = .ok (.return_, 1) := by decide +kernel
theorem xg_nse : ∀ w ∈ Cond.classLink RX5 53 nse :: Cond.initialized nse :: vx_atX RX5 57 nse 13 rNse xNm, vx_ot w = true := by decide +kernel
theorem xg_ise : ∀ w ∈ Cond.classLink RX5 68 ise :: Cond.initialized ise :: vx_atS RX5 72 ise xNm, vx_ot w = true := by decide +kernel
theorem xg_iae : ∀ w ∈ Cond.classLink RX5 82 iae :: Cond.initialized iae :: vx_atS RX5 86 iae xNm, vx_ot w = true := by decide +kernel
theorem xb_nse : ∀ w ∈ (vx_atX RX5 57 nse 13 rNse xNm).filter (fun w => !goodWord w), w ∈ xB := by decide +kernel
theorem xb_ise : ∀ w ∈ (vx_atS RX5 72 ise xNm).filter (fun w => !goodWord w), w ∈ xB := by decide +kernel
theorem xb_iae : ∀ w ∈ (vx_atS RX5 86 iae xNm).filter (fun w => !goodWord w), w ∈ xB := by decide +kernel
section
variable {p : Program} {l : Launch} {e : Env} {R : Room} {s : State} {m : MethodId} {args : Array Value} {below : List Frame} {meth : Method} {c : Code} {H : Heap} {locs : List Loc} {cells slots : Nat} {Q : State → Prop}
variable {cc bytes : ByteArray} {pc index maxL nL mc ms n : Nat} {ls : Array Slot} {rest st0 As : List Value} {D : va_G} {A : Nat → Prop} {tys : List (ClassId × FieldType)} {own C : String} {y : MethodName} {ret : Option FieldType} {wsy Ts : List Cond} {rm : Room} {b ci q0 : Nat} {fs : List Value} {qc : vw_C} {S : Type} {wc ws : va_W} {w1 J : S → va_W}
theorem xS_warm {U : State} (hW : s.WarmedH U.vm) (h : xS s) : xS U := fun q hq => by
  obtain ⟨a, h1⟩ := h q hq
  exact ⟨a, h1.warm hW⟩
theorem xS_same {u U : State} (hv : U.vm = u.vm) (h : xS u) : xS U := fun q hq => by
  obtain ⟨a, h1⟩ := h q hq
  exact ⟨a, h1.same hv⟩
theorem wx_blind {av : List Value} {sz : Nat} : FrameBlind (va_Pc av (Wx D tys ws sz)) := fun a U g mk q => by
  obtain ⟨q0, ⟨q1, q2, q3, q4⟩, q5, q6, q7, q8, q9, q10⟩ := q
  exact ⟨q0, ⟨q1, q2, va_K.moved (u := U) (U := U.calling g mk a) (Vm.Alike.refl U.vm) q3, q4⟩, vx_Zq.moved (u := U) (U := U.calling g mk a) (Vm.Alike.refl U.vm) q5, vx_Zq.moved (u := U) (U := U.calling g mk a) (Vm.Alike.refl U.vm) q6, xS_same (u := U) (U := U.calling g mk a) rfl q7, va_Nc.moved (u := U) (U := U.calling g mk a) (Vm.Alike.refl U.vm) q8, va_Nc.moved (u := U) (U := U.calling g mk a) (Vm.Alike.refl U.vm) q9, xK.moved (u := U) (U := U.calling g mk a) (Vm.Alike.refl U.vm) q10⟩
theorem wx_pre {av : List Value} (hP : va_P D vwCl ws H) (hK : va_K D vwCl tys s) (hD : va_D A ws) (hF : ∀ q, va_A ws H.size q → A q) (hS : va_S A s.heap H locs) (hE : xE A s) : ∀ U : State, U.heap = H → s.WarmedH U.vm → va_Pc av (Wx D tys ws H.size) av.toArray U := fun U hU hW => by
  obtain ⟨q5, q6, q7, q8, q9, q10⟩ := hE
  refine ⟨rfl, ⟨by rw [hU], by rw [hU]; exact hP, va_K.moved hW.alike hK, hD.weaken (fun _ _ _ _ => trivial)⟩, ?_, ?_, xS_warm hW q7, va_Nc.moved hW.alike q8, va_Nc.moved hW.alike q9, xK.moved hW.alike q10⟩
  · rw [hU]; exact vx_Zq.moved hW.alike ((q5.kept hS.2.1).narrow hF)
  · rw [hU]; exact vx_Zq.moved hW.alike ((q6.kept hS.2.1).narrow hF)
/-- the throw itself -/
theorem thr {px : S → Prop} {cls text : String} {ik is ic : Nat} (u : S) (hx : p.tables.exec = Jvm.exec) (hb : c.code = cc) (hl : l.stackTraces = false) (hown : s.vm.findClass own = some m.cls) (hcls : Bundle.fit cls = true) (hnames : ∀ n ∈ xNm, Bundle.fit n = true)
    (hk : (Cond.classLink own ik cls).before args s = true) (hini : (Cond.initialized cls).before args s = true) (hstr : ∃ sa, vk_R own is text sa s) (hat : ∀ w ∈ vx_atS own ic cls xNm, w.before args s = true)
    (hgood : ∀ w ∈ Cond.classLink own ik cls :: Cond.initialized cls :: vx_atS own ic cls xNm, vx_ot w = true) (hE : xE A s) (hS : va_S A s.heap H locs) (hsize : ls.size = c.maxLocals)
    (d0 : decode cc pc = .ok (.new ik, 3)) (d3 : decode cc (pc + 3) = .ok (.dup, 1)) (d4 : decode cc (pc + 4) = .ok (.ldc is, 2)) (d6 : decode cc (pc + 6) = .ok (.invokespecial ic, 3)) (d9 : decode cc (pc + 9) = .ok (.athrow, 1))
    (ht : ∀ x ∈ c.exceptionTable.toList, False) (hRf : 5 < R.frames) (hRl : (rest.map fun v => v.category).sum + 82 ≤ R.locals) (hRc : cells + 1 ≤ R.cells) (hRs : slots + 6 ≤ R.slots) (hlocks : meth.locks = false)
    (hK : va_K D vwCl tys s) (hP : va_P D vwCl (w1 u) H) (hD : va_D A (w1 u)) (hp : px u) (hc : cells + 1 ≤ mc) (hs : slots + 6 ≤ ms) :
    W p l e R s m args below meth c H locs cells slots (vx_MQ below (fun _ _ _ _ => False) (vx_X px (fun E u t => E = cls ∧ Wa D tys A (w1 u) t) A) args s mc ms A) (F0 m pc ls rest) := by
  obtain ⟨sa, hstr⟩ := hstr
  exact vx_throwS (own := own) (cls := cls) (text := text) (names := xNm) (A := A) hx hb hl hown hcls hnames hk hini hstr hat hgood hE.1 hE.2.1 hS hsize d0 d3 d4 d6 d9 (fun x h => (ht x h).elim) hRf hRl hRc hRs hlocks
    (fun t hvm hz hk => ⟨u, hp, ⟨rfl, hP.kept (fun k q h => hk q.1 (vx_lt hP h)), va_K.moved hvm hK, hD⟩, Nat.le_trans hS.1 hz, fun q h1 h2 => (hk q (Nat.lt_of_lt_of_le h1 hS.1)).trans (hS.2.1 q h1 h2)⟩) hS.2.2 hc hs
/-- the same, its constructor's link at index ix -/
theorem thrX {px : S → Prop} {cls text : String} {ik is ic ix : Nat} {rx : ByteArray} (u : S) (x0 : decode rx 0 = .ok (.aload_n 0, 1)) (x1 : decode rx 1 = .ok (.aload_n 1, 1)) (x2 : decode rx 2 = .ok (.invokespecial ix, 3)) (x5 : decode rx 5 = .ok (.return_, 1)) (hx : p.tables.exec = Jvm.exec) (hb : c.code = cc) (hl : l.stackTraces = false) (hown : s.vm.findClass own = some m.cls) (hcls : Bundle.fit cls = true) (hnames : ∀ n ∈ xNm, Bundle.fit n = true)
    (hk : (Cond.classLink own ik cls).before args s = true) (hini : (Cond.initialized cls).before args s = true) (hstr : ∃ sa, vk_R own is text sa s) (hat : ∀ w ∈ vx_atX own ic cls ix rx xNm, w.before args s = true)
    (hgood : ∀ w ∈ Cond.classLink own ik cls :: Cond.initialized cls :: vx_atX own ic cls ix rx xNm, vx_ot w = true) (hE : xE A s) (hS : va_S A s.heap H locs) (hsize : ls.size = c.maxLocals)
    (d0 : decode cc pc = .ok (.new ik, 3)) (d3 : decode cc (pc + 3) = .ok (.dup, 1)) (d4 : decode cc (pc + 4) = .ok (.ldc is, 2)) (d6 : decode cc (pc + 6) = .ok (.invokespecial ic, 3)) (d9 : decode cc (pc + 9) = .ok (.athrow, 1))
    (ht : ∀ x ∈ c.exceptionTable.toList, False) (hRf : 5 < R.frames) (hRl : (rest.map fun v => v.category).sum + 82 ≤ R.locals) (hRc : cells + 1 ≤ R.cells) (hRs : slots + 6 ≤ R.slots) (hlocks : meth.locks = false)
    (hK : va_K D vwCl tys s) (hP : va_P D vwCl (w1 u) H) (hD : va_D A (w1 u)) (hp : px u) (hc : cells + 1 ≤ mc) (hs : slots + 6 ≤ ms) :
    W p l e R s m args below meth c H locs cells slots (vx_MQ below (fun _ _ _ _ => False) (vx_X px (fun E u t => E = cls ∧ Wa D tys A (w1 u) t) A) args s mc ms A) (F0 m pc ls rest) := by
  obtain ⟨sa, hstr⟩ := hstr
  exact vx_throwX (own := own) (cls := cls) (text := text) (names := xNm) (A := A) hx hb hl x0 x1 x2 x5 hown hcls hnames hk hini hstr hat hgood hE.1 hE.2.1 hS hsize d0 d3 d4 d6 d9 (fun x h => (ht x h).elim) hRf hRl hRc hRs hlocks
    (fun t hvm hz hk => ⟨u, hp, ⟨rfl, hP.kept (fun k q h => hk q.1 (vx_lt hP h)), va_K.moved hvm hK, hD⟩, Nat.le_trans hS.1 hz, fun q h1 h2 => (hk q (Nat.lt_of_lt_of_le h1 hS.1)).trans (hS.2.1 q h1 h2)⟩) hS.2.2 hc hs
/-- a call of a method that throws E0 -/
theorem cx_v {px : S → Prop} {E0 : String} (fx : CallFix p m c cc nL s args Ts own)
    (hM : vx_Met l y wsy rm (va_Pc (.ref b :: As) (Wx D tys wc H.size)) (fun _ _ _ _ => False) (vx_X px (fun E u t => E = E0 ∧ Wa D tys (va_A wc H.size) (w1 u) t) (va_A wc H.size)) mc ms (va_A wc H.size))
    (cw : CallW R s args own C index y bytes maxL ret wsy rm mc ms n) (hK : va_K D vwCl tys s) (hPc : va_P D vwCl wc H) (hDc : va_D A wc) (hF : ∀ q, va_A wc H.size q → A q)
    (hJ : ∀ (H1 : Heap) (u : S), (∀ q : Nat, q < H.size → ¬ va_A wc H.size q → H1[q]? = H[q]?) → va_P D vwCl (w1 u) H1 → va_D (va_A wc H.size) (w1 u) → va_P D vwCl (J u) H1 ∧ va_D A (J u))
    (hS : va_S A s.heap H locs) (hE : xE A s) (hcl : vwCl[ci]? = some qc) (hq : qc.1 = C) (he : wc[q0]? = some (b, .inr (ci, fs))) (hn : As.length = n) (hsz : ls.size = nL) (hst : st0 = As.reverse ++ .ref b :: rest) (hW : (rest.map fun v => v.category).sum ≤ 8) (hdg : decode cc pc = .ok (.invokevirtual index, 3)) (hf : cells + mc ≤ R.cells ∧ slots + ms ≤ R.slots)
    (kx : ∀ (ce : Cell) (q9 : Addr) (u : S) (H1 : Heap) (locs1 : List Loc), px u → va_P D vwCl (J u) H1 → va_D A (J u) → va_S A s.heap H1 locs1 → H1[q9]? = some ce → ce.vm = .none → s.vm.findClass E0 = some ce.cls → vx_W p l e R s m args below meth c H1 locs1 (cells + mc) (slots + ms) Q (F0 m pc ls rest) q9) : W p l e R s m args below meth c H locs cells slots Q (F0 m pc ls st0) := by
  have hrun := vx_runV (e := e) (below := below) (meth := meth) (locs := locs) (cells := cells) (slots := slots) (g := F0 m pc ls st0) (As := As) (rest := rest) fx hM cw ⟨wx_blind, (by
    obtain ⟨cell, h1, h2, h3⟩ := va_recv hK hPc hcl he
    exact ⟨cell, h1, h2, hq ▸ h3⟩), wx_pre hPc hK hDc hF hS hE⟩ rfl hn hsz hst (lv_room hW) hdg hf
  intro T hT X
  rcases hrun T hT X with ⟨v, st₀, t, T', L, h0, X', hL, e1, e2, hq9, st⟩ | ⟨q, st₀, t, T', L, E, ce, h0, X', hL, e1, e2, ⟨u, hp, hb, hF9⟩, hce, hcv, hcl9, st⟩
  · exact hq9.elim
  · obtain ⟨k1, k2, k3⟩ := vx_keep h0 e1 hS (fun q _ h => hF q h) hF hL hF9
    obtain ⟨rfl, hP1, -, hD1⟩ := hb
    rw [← e1] at hP1
    obtain ⟨a1, a2⟩ := hJ T'.heap u k2 hP1 hD1
    obtain ⟨t2, b1, b2⟩ := kx ce q u T'.heap (locs ++ L) hp a1 a2 k3 (by rw [e1]; exact hce) hcv hcl9 T' rfl X'
    exact ⟨t2, st.trans b1, b2⟩
end
