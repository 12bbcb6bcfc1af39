/-! the law: its entry, its loop, what its cases need -/
def R_law : String := "TextAlignerLaw"
def lw_P (b : Addr) (xs : List Int32) (args : Array Value) (s : State) : Prop := args = #[.ref b] ∧ s.IntsAt b xs ∧ xs.length ≤ 3072 ∧ (Jvm.Cond.and given_1 narrow_1).before args s = true
def lw_Q (_ : Array Value) (s : State) (o : Outcome) (t : State) : Prop := o = .returned (some (.int 1)) ∧ Framed s o t [] 601024 7293033
def lw_Z (below : List Frame) (a : Array Value) (s : State) : State → Prop := fun t => ∃ o, t.status = .running ∧ Ended t below o ∧ lw_Q a s o t
/-- the law's own end, with 1 on the stack, nothing written that was there before, its room as the claim has it -/
theorem lw_ret {p : Program} {l : Launch} {e : Env} {s : State} {m : MethodId} {below : List Frame} {meth : Method} {c : Code} {b : Nat} (hx : p.tables.exec = Jvm.exec) (hb : c.code = code) (hr : meth.sig.returnType = ret) (hlocks : meth.locks = false) {pc : Nat} {H : Heap} {ls : Array Slot} (hdg : decode code pc = .ok (.ireturn, 1)) : W p l e room_1 s m #[Value.ref b] below meth c H [] 601024 7293033 (lw_Z below #[Value.ref b] s) (F0 m pc ls [.int 1]) := by
  intro T hT X
  obtain ⟨fs, hret, hrun, hended, hW, hframe⟩ := X.leave (v := some (.int 1)) (hlocks := hlocks) (fun h => by rw [hr] at h; cases h)
  have hmeth' : T.vm.method? m = some meth := X.method'
  refine ⟨T.setFrames fs, ?_, .returned (some (.int 1)), hrun, hended, rfl, ⟨_, rfl⟩, hW, hframe⟩
  jvm_step X.here [X.here.top, hx, hb, hdg, hmeth', hr, ret, narrow_b1]
  (try refine ⟨rfl, ?_⟩); (try refine ⟨rfl, ?_⟩)
  first | (intro acts; rw [hret _ acts rfl rfl rfl]) | rw [hret _ _ rfl rfl rfl]
  exact Steps.refl _
/-- what holds at the law's entry: the machine, the code, the tables' words (any of lw_tbl by 'hts w (by decide +kernel)'), the script of L ints xs at the cell b, what the Statement gives of the start (any of its parts by flat_of_before) -/
def lw_At (p : Program) (s : State) (m : MethodId) (meth : Method) (c : Code) (b L : Nat) (xs : Nat → Int32) : Prop :=
  p.tables.exec = Jvm.exec ∧ c.code = code ∧ meth.sig.returnType = ret ∧ c.maxLocals = 7 ∧ s.vm.findClass R_law = some m.cls ∧ (∀ w ∈ lw_tbl, w.before #[Value.ref b] s = true) ∧ va_X b L xs s s.heap ∧ b < s.heap.size ∧ meth.locks = false ∧ (Jvm.Cond.and given_1 narrow_1).before #[Value.ref b] s = true
section
variable {p : Program} {l : Launch} {e : Env} {R : Room} {s : State} {m : MethodId} {args : Array Value} {below : List Frame} {meth : Method} {c : Code} {H : Heap} {locs : List Loc} {cells slots : Nat} {Q : State → Prop} {pc : Nat}
/-- a loop whose cells grow by one and whose slots grow by six each time -/
theorem hv_loopC (C1 S1 N : Nat) (K : Nat → Heap → List Loc → Array Slot → Prop) (hN : ∀ k H locs ls, K k H locs ls → k ≤ N)
    (hs : ∀ k H locs ls, K k H locs ls → (∀ H' locs' ls', K (k + 1) H' locs' ls' → W p l e R s m args below meth c H' locs' (C1 + k + 1) (S1 + 6 * k + 6) Q (F0 m pc ls' [])) → W p l e R s m args below meth c H locs (C1 + k) (S1 + 6 * k) Q (F0 m pc ls [])) :
    ∀ k H locs ls, K k H locs ls → W p l e R s m args below meth c H locs (C1 + k) (S1 + 6 * k) Q (F0 m pc ls []) := by
  have key : ∀ d k H locs ls, N ≤ k + d → K k H locs ls → W p l e R s m args below meth c H locs (C1 + k) (S1 + 6 * k) Q (F0 m pc ls []) := by
    intro d
    induction d with
    | zero => intro k H locs ls hd h; exact hs k H locs ls h (fun H' locs' ls' h' => absurd (hN _ _ _ _ h') (by omega))
    | succ d ih => intro k H locs ls hd h; exact hs k H locs ls h (fun H' locs' ls' h' => ih (k + 1) H' locs' ls' (by omega) h')
  intro k H locs ls h
  exact key N k H locs ls (by omega) h
end
theorem lw_cmp {f : Nat → Int64} {a b : Int32} (h : a = b) : lg_cmp (vp_updL f 0 a.toInt64 0) b.toInt64 = 0 := by
  subst h
  rw [show vp_updL f 0 a.toInt64 0 = a.toInt64 from if_pos rfl]
  exact (lg_cmp_eq _ _).mpr rfl
theorem lw_in {k L : Nat} (hL : L ≤ 3072) (hk : 6 * k ≤ L) (h : ¬ nI L - 6 < nI (6 * k)) : 6 * k + 6 ≤ L := by
  have e1 : (nI L).toInt = (L : Int) := nI_toInt (by omega)
  have e2 : (nI (6 * k)).toInt = ((6 * k : Nat) : Int) := nI_toInt (by omega)
  have e6 : ((6 : Int32).toInt) = 6 := rfl
  rw [px_lt, px_sub (by rw [e1, e6]; omega) (by rw [e1, e6]; omega), e1, e2, e6] at h
  omega
theorem lw_nat {v : Int32} (h : 0 ≤ v) : ∃ i : Nat, i < 2147483648 ∧ v = nI i := by
  have h0 : ((0 : Int32).toInt) = 0 := rfl
  rw [px_le, h0] at h
  have h2 : v.toInt < 2147483648 := by have := Int32.toInt_lt v; omega
  refine ⟨v.toInt.toNat, by omega, ?_⟩
  rw [px_eq, nI_toInt (by omega)]
  omega
theorem lw_natlt {v : Int32} {n : Nat} (hn : n < 2147483648) (h : 0 ≤ v ∧ v < nI n) : ∃ i : Nat, i < n ∧ v = nI i := by
  obtain ⟨i, h1, rfl⟩ := lw_nat h.1
  exact ⟨i, (nI_ltI (by omega) (by omega)).mp h.2, rfl⟩
section
variable {p : Program} {l : Launch} {e : Env} {R : Room} {s : State} {m : MethodId} {args : Array Value} {below : List Frame} {meth : Method} {c : Code} {H : Heap} {locs : List Loc} {cells slots : Nat} {Q : State → Prop} {cc : ByteArray} {pc : Nat} {ls : Array Slot} {rest : List Value} {A : Nat → Prop} {H0 : Heap}
theorem va_sldN (hexec : p.tables.exec = Jvm.exec) (hb : c.code = cc) {b L : Nat} {xs : Nat → Int32} (hX : va_X b L xs s H0) (hbl : b < H0.size) (hbA : ¬ A b) (hS : va_S A H0 H locs) {i : Nat} (hi : i < L) (hL : L < 2 ^ 31) (hdg : decode cc pc = .ok (.iaload, 1))
    (kk : W p l e R s m args below meth c H locs cells slots Q (F0 m (pc + 1) ls (.int (xs i) :: rest))) : W p l e R s m args below meth c H locs cells slots Q (F0 m pc ls (.int (nI i) :: .ref b :: rest)) := by
  refine va_sld hexec hb hX hbl hbA hS (vp_in_nI hi hL) hdg ?_
  rw [nI_clamp (by omega)]; exact kk
end
theorem lw_le3 {v : Int32} (h : 0 ≤ v ∧ v ≤ 3) : v = 0 ∨ v = 1 ∨ v = 2 ∨ v = 3 := by
  obtain ⟨i, h1, rfl⟩ := lw_nat h.1
  have h2 : i ≤ 3 := (nI_leI (a := i) (b := 3) (by omega) (by omega)).mp h.2
  rcases (show i = 0 ∨ i = 1 ∨ i = 2 ∨ i = 3 by omega) with rfl | rfl | rfl | rfl <;> decide
theorem lw_le4 {v : Int32} (h : 0 ≤ v ∧ v ≤ 4) : v = 0 ∨ v = 1 ∨ v = 2 ∨ v = 3 ∨ v = 4 := by
  obtain ⟨i, h1, rfl⟩ := lw_nat h.1
  have h2 : i ≤ 4 := (nI_leI (a := i) (b := 4) (by omega) (by omega)).mp h.2
  rcases (show i = 0 ∨ i = 1 ∨ i = 2 ∨ i = 3 ∨ i = 4 by omega) with rfl | rfl | rfl | rfl | rfl <;> decide
theorem lf_m1 {i : Nat} (h : i < 302) : ¬ (-1 : Int32) = nI i := fun q => by
  have h1 : (0 : Int32) ≤ nI i := nI_pos' (by omega)
  rw [← q] at h1
  exact absurd h1 (by decide)
section
variable {mm nn om on cnt len : Nat} {pp tt op ot fe fd fs vs vso : Nat → Int32} {sof oo xx : Int32} {LP : List Nat} {tg rg : Nat → Option Nat} {pl : Nat → Nat} {pr rM : Nat → Nat → Int32}
theorem lf_feed0 {wa wb wc wd : Int32} (hF : LF mm nn om on cnt len pp tt op ot fe fd fs vs vso sof oo xx LP tg rg pl pr rM) (hf : mm + px_fn wa wb wc wd ≤ 150) : LF (px_f wa wb wc wd (mm, pp)).1 nn om on cnt len (px_f wa wb wc wd (mm, pp)).2 tt op ot fe fd fs vs vso sof oo xx LP tg rg pl pr rM := by
  obtain ⟨⟨b1, b2, b3, b4, b5⟩, hPP, hr⟩ := hF
  exact ⟨⟨by rw [px_f_n]; exact hf, b2, b3, b4, b5⟩, lf_f (s := (mm, pp)) hPP, hr⟩
theorem lf_feed1 {wa wb wc wd : Int32} (hF : LF mm nn om on cnt len pp tt op ot fe fd fs vs vso sof oo xx LP tg rg pl pr rM) (hf : nn + px_fn wa wb wc wd ≤ 300) : LF mm (px_f wa wb wc wd (nn, tt)).1 om on cnt len pp (px_f wa wb wc wd (nn, tt)).2 op ot fe fd fs vs vso sof oo xx LP tg rg pl pr rM := by
  obtain ⟨⟨b1, b2, b3, b4, b5⟩, hPP, hTT, hr⟩ := hF
  exact ⟨⟨b1, by rw [px_f_n]; exact hf, b3, b4, b5⟩, hPP, lf_f (s := (nn, tt)) hTT, hr⟩
theorem lf_clear0 (hF : LF mm nn om on cnt len pp tt op ot fe fd fs vs vso sof oo xx LP tg rg pl pr rM) : LF 0 nn om on cnt len pp tt op ot fe fd fs vs vso sof oo xx LP tg rg pl pr rM := by
  obtain ⟨⟨b1, b2, b3, b4, b5⟩, hPP, hr⟩ := hF
  exact ⟨⟨Nat.zero_le _, b2, b3, b4, b5⟩, fun i hi => absurd hi (Nat.not_lt_zero i), hr⟩
theorem lf_clear1 (hF : LF mm nn om on cnt len pp tt op ot fe fd fs vs vso sof oo xx LP tg rg pl pr rM) : LF mm 0 om on cnt len pp tt op ot fe fd fs vs vso sof oo xx LP tg rg pl pr rM := by
  obtain ⟨⟨b1, b2, b3, b4, b5⟩, hPP, hTT, hr⟩ := hF
  exact ⟨⟨b1, Nat.zero_le _, b3, b4, b5⟩, hPP, fun i hi => absurd hi (Nat.not_lt_zero i), hr⟩
theorem lf_fnd {mode bound : Int32} : px_fnd mm nn (va_cpy pp op 0 0 mm) (va_cpy tt ot 0 0 nn) mode bound (cnt, fe, fd, fs) nn = px_fnd mm nn pp tt mode bound (cnt, fe, fd, fs) nn :=
  px_fnd_c (fun _ h => px_cpy_in h) (fun _ h => px_cpy_in h) nn (Nat.le_refl _)
theorem lf_search {mode bound : Int32} (hF : LF mm nn om on cnt len pp tt op ot fe fd fs vs vso sof oo xx LP tg rg pl pr rM) :
    LF mm nn mm nn (px_fnd mm nn pp tt mode bound (cnt, fe, fd, fs) nn).1 len pp tt (va_cpy pp op 0 0 mm) (va_cpy tt ot 0 0 nn) (px_fnd mm nn pp tt mode bound (cnt, fe, fd, fs) nn).2.1 (px_fnd mm nn pp tt mode bound (cnt, fe, fd, fs) nn).2.2.1 (px_fnd mm nn pp tt mode bound (cnt, fe, fd, fs) nn).2.2.2 vs vso (-1) oo xx LP tg rg pl pr rM := by
  obtain ⟨⟨b1, b2, b3, b4, b5⟩, hPP, hTT, hOK, hSO, hr⟩ := hF
  have h1 := px_fnd_le (m := mm) (n := nn) (p := pp) (t := tt) (mode := mode) (bound := bound) (s := (cnt, fe, fd, fs)) nn
  exact ⟨⟨b1, b2, b1, b2, Nat.le_trans h1 (by omega)⟩, hPP, hTT, px_fnd_ok nn (Nat.le_refl _), fun i hi q => absurd q (lf_m1 (by omega)), hr⟩
theorem lf_script {i st n len' : Nat} {vs' : Nat → Int32} {pr' rM' : Nat → Nat → Int32} (hF : LF mm nn om on cnt len pp tt op ot fe fd fs vs vso sof oo xx LP tg rg pl pr rM) (hi : i < cnt) (hn : st + n ≤ on) (hfe : fe i = nI (st + n)) (hfs : fs i = nI st)
    (h1 : px_sc op ot om st (st + n) len' vs') (h2 : len' ≤ 450) (h3 : gr_ok rg LP pl pr' 151 301 rM') (h4 : ∀ z, (∀ i, i < 151 → rg i ≠ some z) → pr' z = pr z) : LF mm nn om on cnt len' pp tt op ot fe fd fs vs' vso (nI i) oo xx LP tg rg pl pr' rM' := by
  obtain ⟨⟨b1, b2, b3, b4, b5⟩, hPP, hTT, hOK, hSO, hO1, hX1, hVS, hG1, hG2, hAP⟩ := hF
  refine ⟨⟨b1, b2, b3, b4, b5⟩, hPP, hTT, hOK, ?_, hO1, hX1, hVS, gr_frame hG1 (fun i' y hi' hy => h4 y (fun j hj hc => hAP i' j y hi' hj hy hc)), h3, hAP⟩
  intro i' hi' q st' en' q1 q2 q3 q4
  have e1 : i = i' := (nI_eq (by omega) (by omega)).mp q
  subst e1
  have e2 : st = st' := (nI_eq (by omega) (by omega)).mp (hfs.symm.trans q1)
  have e3 : st + n = en' := (nI_eq (by omega) (by omega)).mp (hfe.symm.trans q2)
  subst e2
  subst e3
  exact ⟨h1, h2⟩
theorem lf_score {i j : Nat} {v : Int32} {pr' : Nat → Nat → Int32} (hF : LF mm nn om on cnt len pp tt op ot fe fd fs vs vso sof oo xx LP tg rg pl pr rM) (hi : i < 8) (hj : j < 8) (hv : -1000 ≤ v ∧ v ≤ 1000)
    (h1 : gr_ok tg LP pl pr' 8 8 (gUp (gUp (fun i j => vso (8 * i + j)) i j v) j i v)) (h4 : ∀ z, (∀ i, i < 8 → tg i ≠ some z) → pr' z = pr z) : LF mm nn om on cnt len pp tt op ot fe fd fs vs (upd (upd vso (8 * i + j) v) (8 * j + i) v) sof oo xx LP tg rg pl pr' rM := by
  obtain ⟨hB, hPP, hTT, hOK, hSO, hO1, hX1, hVS, hG1, hG2, hAP⟩ := hF
  have hv2 : -1000 ≤ v.toInt ∧ v.toInt ≤ 1000 := by
    have e1 : ((-1000 : Int32).toInt) = -1000 := rfl
    have e2 : ((1000 : Int32).toInt) = 1000 := rfl
    rw [px_le, px_le, e1, e2] at hv; exact hv
  refine ⟨hB, hPP, hTT, hOK, hSO, hO1, hX1, ?_, gr_c h1 ?_, gr_frame hG2 (fun j' y hj' hy => h4 y (fun i' hi' hc => hAP i' j' y hi' hj' hc hy)), hAP⟩
  · intro k hk
    by_cases e1 : k = 8 * j + i
    · subst e1; rw [pk_us]; exact hv2
    · rw [pk_un e1]
      by_cases e2 : k = 8 * i + j
      · subst e2; rw [pk_us]; exact hv2
      · rw [pk_un e2]; exact hVS k hk
  · intro a b' ha hb'
    by_cases e1 : a = j ∧ b' = i
    · obtain ⟨rfl, rfl⟩ := e1
      rw [gUp_s]; exact pk_us.symm
    · rw [gUp_n e1]
      refine Eq.trans ?_ (pk_un (show ¬ 8 * a + b' = 8 * j + i by omega)).symm
      by_cases e2 : a = i ∧ b' = j
      · obtain ⟨rfl, rfl⟩ := e2
        rw [gUp_s]; exact pk_us.symm
      · rw [gUp_n e2]; exact (pk_un (show ¬ 8 * a + b' = 8 * i + j by omega)).symm
theorem lf_gaps {p0 p1 : Int32} (hF : LF mm nn om on cnt len pp tt op ot fe fd fs vs vso sof oo xx LP tg rg pl pr rM) (h0 : 0 ≤ p0 ∧ p0 ≤ 1000 ∧ 0 ≤ p1 ∧ p1 ≤ 1000) : LF mm nn om on cnt len pp tt op ot fe fd fs vs vso sof p0 p1 LP tg rg pl pr rM := by
  obtain ⟨hB, hPP, hTT, hOK, hSO, hO1, hX1, hr⟩ := hF
  have e1 : ((0 : Int32).toInt) = 0 := rfl
  have e2 : ((1000 : Int32).toInt) = 1000 := rfl
  rw [px_le, px_le, px_le, px_le, e1, e2] at h0
  exact ⟨hB, hPP, hTT, hOK, hSO, ⟨h0.1, h0.2.1⟩, h0.2.2, hr⟩
end
def LI (s : State) (A : Nat → Prop) (D : va_G) (cI cJ cL : ClassId) (b L : Nat) (x xp xpa xt xta so sg g gp gpa gt gta ge gd gs gn gl sc ss sr fo ff fg ou mo m_p m_t m_op m_ot m_e m_d m_s m_b m_n m_bb m_bg m_l m_sc m_so m_bo m_ac m_dn : Nat) (LP : List Nat) (tg rg : Nat → Option Nat) (pl : Nat → Nat) (k : Nat) (H : Heap) (locs : List Loc) (ls : Array Slot) : Prop :=
  ∃ (mm nn om on cnt len : Nat) (pp tt op ot fe fd fs vs vso : Nat → Int32) (sof oo xx : Int32) (pr rM : Nat → Nat → Int32) (fn fl hh gg vb vn vbb vbg vl vsc vbo vac vdn : Nat → Int32) (cbs cbp cbt th stp bp bt : Int32) (fo9 : Nat → Int64), 6 * k ≤ L ∧ LF mm nn om on cnt len pp tt op ot fe fd fs vs vso sof oo xx LP tg rg pl pr rM ∧ va_P D vwCl ([(x, .inr (5, [.ref xp, .ref xt, .ref so, .ref g, .ref sc, .ref fo, .int sof])), (xp, .inr (4, [.ref xpa, .int (nI mm)])), (xpa, .inl (cI, 150, .inl pp)), (xt, .inr (4, [.ref xta, .int (nI nn)])), (xta, .inl (cI, 300, .inl tt)), (so, .inr (2, [.ref sg, .int oo, .int xx])), (sg, .inl (cJ, 8, .inr (.inr (.inr (.inr tg))))), (g, .inr (0, [.ref gp, .ref gt, .ref ge, .ref gd, .ref gs, .int (nI cnt), .ref gn, .ref gl])), (gp, .inr (4, [.ref gpa, .int (nI om)])), (gpa, .inl (cI, 150, .inl op)), (gt, .inr (4, [.ref gta, .int (nI on)])), (gta, .inl (cI, 300, .inl ot)), (ge, .inl (cI, 301, .inl fe)), (gd, .inl (cI, 301, .inl fd)), (gs, .inl (cI, 301, .inl fs)), (gn, .inl (cI, 151, .inl fn)), (gl, .inl (cI, 151, .inl fl)), (sc, .inr (3, [.ref ss, .int (nI len), .ref sr])), (ss, .inl (cI, 450, .inl vs)), (sr, .inl (cJ, 151, .inr (.inr (.inr (.inr rg))))), (fo, .inr (1, [.ref ff, .ref fg, .int cbs, .int cbp, .int cbt])), (ff, .inl (cI, 301, .inl hh)), (fg, .inl (cI, 301, .inl gg)), (ou, .inl (cL, 1, .inr (.inl fo9))), (mo, .inr (6, [.int th, .ref m_p, .ref m_t, .int (nI mm), .int (nI nn), .ref m_op, .ref m_ot, .int (nI om), .int (nI on), .int (nI cnt), .ref m_e, .ref m_d, .ref m_s, .ref m_b, .ref m_n, .ref m_bb, .ref m_bg, .ref m_l, .int stp, .ref m_sc, .ref m_so, .int oo, .int xx, .ref m_bo, .ref m_ac, .ref m_dn, .int bp, .int bt])), (m_p, .inl (cI, 150, .inl pp)), (m_t, .inl (cI, 300, .inl tt)), (m_op, .inl (cI, 150, .inl op)), (m_ot, .inl (cI, 300, .inl ot)), (m_e, .inl (cI, 301, .inl fe)), (m_d, .inl (cI, 301, .inl fd)), (m_s, .inl (cI, 301, .inl fs)), (m_b, .inl (cI, 151, .inl vb)), (m_n, .inl (cI, 151, .inl vn)), (m_bb, .inl (cI, 151, .inl vbb)), (m_bg, .inl (cI, 151, .inl vbg)), (m_l, .inl (cI, 45451, .inl vl)), (m_sc, .inl (cI, 451, .inl vsc)), (m_so, .inl (cI, 64, .inl vso)), (m_bo, .inl (cI, 301, .inl vbo)), (m_ac, .inl (cI, 301, .inl vac)), (m_dn, .inl (cI, 301, .inl vdn))] ++ va_pl LP (gF cI pl pr)) H ∧ va_D A ([(x, .inr (5, [.ref xp, .ref xt, .ref so, .ref g, .ref sc, .ref fo, .int sof])), (xp, .inr (4, [.ref xpa, .int (nI mm)])), (xpa, .inl (cI, 150, .inl pp)), (xt, .inr (4, [.ref xta, .int (nI nn)])), (xta, .inl (cI, 300, .inl tt)), (so, .inr (2, [.ref sg, .int oo, .int xx])), (sg, .inl (cJ, 8, .inr (.inr (.inr (.inr tg))))), (g, .inr (0, [.ref gp, .ref gt, .ref ge, .ref gd, .ref gs, .int (nI cnt), .ref gn, .ref gl])), (gp, .inr (4, [.ref gpa, .int (nI om)])), (gpa, .inl (cI, 150, .inl op)), (gt, .inr (4, [.ref gta, .int (nI on)])), (gta, .inl (cI, 300, .inl ot)), (ge, .inl (cI, 301, .inl fe)), (gd, .inl (cI, 301, .inl fd)), (gs, .inl (cI, 301, .inl fs)), (gn, .inl (cI, 151, .inl fn)), (gl, .inl (cI, 151, .inl fl)), (sc, .inr (3, [.ref ss, .int (nI len), .ref sr])), (ss, .inl (cI, 450, .inl vs)), (sr, .inl (cJ, 151, .inr (.inr (.inr (.inr rg))))), (fo, .inr (1, [.ref ff, .ref fg, .int cbs, .int cbp, .int cbt])), (ff, .inl (cI, 301, .inl hh)), (fg, .inl (cI, 301, .inl gg)), (ou, .inl (cL, 1, .inr (.inl fo9))), (mo, .inr (6, [.int th, .ref m_p, .ref m_t, .int (nI mm), .int (nI nn), .ref m_op, .ref m_ot, .int (nI om), .int (nI on), .int (nI cnt), .ref m_e, .ref m_d, .ref m_s, .ref m_b, .ref m_n, .ref m_bb, .ref m_bg, .ref m_l, .int stp, .ref m_sc, .ref m_so, .int oo, .int xx, .ref m_bo, .ref m_ac, .ref m_dn, .int bp, .int bt])), (m_p, .inl (cI, 150, .inl pp)), (m_t, .inl (cI, 300, .inl tt)), (m_op, .inl (cI, 150, .inl op)), (m_ot, .inl (cI, 300, .inl ot)), (m_e, .inl (cI, 301, .inl fe)), (m_d, .inl (cI, 301, .inl fd)), (m_s, .inl (cI, 301, .inl fs)), (m_b, .inl (cI, 151, .inl vb)), (m_n, .inl (cI, 151, .inl vn)), (m_bb, .inl (cI, 151, .inl vbb)), (m_bg, .inl (cI, 151, .inl vbg)), (m_l, .inl (cI, 45451, .inl vl)), (m_sc, .inl (cI, 451, .inl vsc)), (m_so, .inl (cI, 64, .inl vso)), (m_bo, .inl (cI, 301, .inl vbo)), (m_ac, .inl (cI, 301, .inl vac)), (m_dn, .inl (cI, 301, .inl vdn))] ++ va_pl LP (gF cI pl pr)) ∧ va_S A s.heap H locs ∧ lv_has ls 7 [(0, .ref b), (1, .ref x), (2, .ref mo), (3, .ref ou), (4, .int (nI (6 * k)))]
