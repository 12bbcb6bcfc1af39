/-! constructors -/
section
variable {p : Program} {l : Launch} {e : Env} {R : Room} {s : State} {m : MethodId} {args : Array Value} {below : List Frame} {meth : Method} {c : Code} {H : Heap} {locs : List Loc} {cells slots : Nat} {Q : State → Prop}
variable {cc bytes : ByteArray} {pc index maxL nL mc ms n : Nat} {ls : Array Slot} {rest st0 As : List Value} {D : va_G} {A : Nat → Prop} {tys : List (ClassId × FieldType)} {H0 : Heap} {own C : String} {y : MethodName} {ret : Option FieldType} {wsy Ts : List Cond} {rm : Room} {b ci q0 : Nat} {fs : List Value} {qc : vw_C} {S : Type} {wc ws : va_W} {w1 J : S → va_W}
theorem ci_v {post : S → Prop} (fx : CallFix p m c cc nL s args Ts own)
    (hM : Met l y wsy rm (va_Pc (.ref b :: As) (Wd D tys wc H.size)) (va_Qv post (fun u => Wa D tys (va_A wc H.size) (w1 u)) (va_A wc H.size)) mc ms (va_A wc H.size))
    (cw : CallB R s args own index y bytes maxL none wsy rm mc ms n ∧ y.name = "<init>" ∧ (Cond.instanceMethod y).before args s = true) (hK : va_K D vwCl tys s) (hPc : va_P D vwCl wc H) (hDc : va_D A wc) (hF : ∀ q, va_A wc H.size q → A q)
    (hJ : ∀ (H1 : Heap) (u : S), (∀ q : Nat, q < H.size → ¬ va_A wc H.size q → H1[q]? = H[q]?) → va_P D vwCl (w1 u) H1 → va_D (va_A wc H.size) (w1 u) → va_P D vwCl (J u) H1 ∧ va_D A (J u))
    (hS : va_S A H0 H locs) (hn : As.length = n) (hsz : ls.size = nL) (hst : st0 = As.reverse ++ .ref b :: rest) (hW : (rest.map fun v => v.category).sum ≤ 8) (hdg : decode cc pc = .ok (.invokespecial index, 3)) (hf : cells + mc ≤ R.cells ∧ slots + ms ≤ R.slots)
    (kk : ∀ (u : S) (H1 : Heap) (locs1 : List Loc), post u → va_P D vwCl (J u) H1 → va_D A (J u) → va_S A H0 H1 locs1 → W p l e R s m args below meth c H1 locs1 (cells + mc) (slots + ms) Q (F0 m (pc + 3) ls rest)) : W p l e R s m args below meth c H locs cells slots Q (F0 m pc ls st0) := by
  refine va_callv (va_runI (As := As) (rest := rest) fx hM cw ⟨wd_blind, wd_pre hPc hK hDc⟩ rfl hn hsz hst (lv_room hW) hdg hf) hS (fun q _ h => hF q h) hF (fun u t H1 locs1 ht hvm hw hB hz hk hS1 => ?_)
  obtain ⟨hP1, -, hD1⟩ := hB
  rw [ht] at hP1
  obtain ⟨a1, a2⟩ := hJ H1 u hk hP1 hD1
  exact kk u H1 locs1 hw a1 a2 hS1
/-- the same where arrays of arrays are made -/
abbrev Wg (D : va_G) (tys : List (ClassId × FieldType)) (ws : va_W) (sz : Nat) (U : State) : Prop := Wd D tys ws sz U ∧ va_AOA .int U
theorem va_AOA.moved {u U : State} (hvm : u.vm.Alike U.vm) (h : va_AOA .int u) : va_AOA .int U := arrayOver_alikeB hvm h
theorem wg_blind {av : List Value} {sz : Nat} : FrameBlind (va_Pc av (Wg D tys ws sz)) := fun a U g mk q => ⟨q.1, ⟨q.2.1.1, q.2.1.2.1, va_K.moved (u := U) (U := U.calling g mk a) (Vm.Alike.refl U.vm) q.2.1.2.2.1, q.2.1.2.2.2⟩, va_AOA.moved (u := U) (U := U.calling g mk a) (Vm.Alike.refl U.vm) q.2.2⟩
theorem wg_pre {av : List Value} (hP : va_P D vwCl ws H) (hK : va_K D vwCl tys s) (hD : va_D A ws) (hO : va_AOA .int s) : ∀ U : State, U.heap = H → s.WarmedH U.vm → va_Pc av (Wg D tys ws H.size) av.toArray U := fun U hU hW => ⟨rfl, ⟨by rw [hU], by rw [hU]; exact hP, va_K.moved hW.alike hK, hD.weaken (fun _ _ _ _ => trivial)⟩, va_AOA.moved hW.alike hO⟩
theorem ci_g {post : S → Prop} (fx : CallFix p m c cc nL s args Ts own)
    (hM : Met l y wsy rm (va_Pc (.ref b :: As) (Wg D tys wc H.size)) (va_Qv post (fun u => Wa D tys (va_A wc H.size) (w1 u)) (va_A wc H.size)) mc ms (va_A wc H.size))
    (cw : CallB R s args own index y bytes maxL none wsy rm mc ms n ∧ y.name = "<init>" ∧ (Cond.instanceMethod y).before args s = true) (hK : va_K D vwCl tys s) (hPc : va_P D vwCl wc H) (hDc : va_D A wc) (hF : ∀ q, va_A wc H.size q → A q)
    (hJ : ∀ (H1 : Heap) (u : S), (∀ q : Nat, q < H.size → ¬ va_A wc H.size q → H1[q]? = H[q]?) → va_P D vwCl (w1 u) H1 → va_D (va_A wc H.size) (w1 u) → va_P D vwCl (J u) H1 ∧ va_D A (J u))
    (hS : va_S A H0 H locs) (hO : va_AOA .int s) (hn : As.length = n) (hsz : ls.size = nL) (hst : st0 = As.reverse ++ .ref b :: rest) (hW : (rest.map fun v => v.category).sum ≤ 8) (hdg : decode cc pc = .ok (.invokespecial index, 3)) (hf : cells + mc ≤ R.cells ∧ slots + ms ≤ R.slots)
    (kk : ∀ (u : S) (H1 : Heap) (locs1 : List Loc), post u → va_P D vwCl (J u) H1 → va_D A (J u) → va_S A H0 H1 locs1 → W p l e R s m args below meth c H1 locs1 (cells + mc) (slots + ms) Q (F0 m (pc + 3) ls rest)) : W p l e R s m args below meth c H locs cells slots Q (F0 m pc ls st0) := by
  refine va_callv (va_runI (As := As) (rest := rest) fx hM cw ⟨wg_blind, wg_pre hPc hK hDc hO⟩ rfl hn hsz hst (lv_room hW) hdg hf) hS (fun q _ h => hF q h) hF (fun u t H1 locs1 ht hvm hw hB hz hk hS1 => ?_)
  obtain ⟨hP1, -, hD1⟩ := hB
  rw [ht] at hP1
  obtain ⟨a1, a2⟩ := hJ H1 u hk hP1 hD1
  exact kk u H1 locs1 hw a1 a2 hS1
/-- new int[N][K] -/
theorem va_mnG {X : va_W} (hexec : p.tables.exec = Jvm.exec) (hb : c.code = cc) (hown : s.vm.findClass own = some m.cls) (hclink : (Cond.classLink own index "[[I").before args s = true) (hover : va_AOA .int s) (harr : (Cond.arrayClass .int).before args s = true) {cI cJ : ClassId} (t0 t1 : Nat) (ht0 : tys[t0]? = some (cI, .int)) (ht1 : tys[t1]? = some (cJ, .array .int))
    (hK : va_K D vwCl tys s) (hP : va_P D vwCl X H) (hD : va_D A X) (hS : va_S A H0 H locs) (hA : ∀ q, H0.size ≤ q → A q) {N K : Nat} (hN : N ≤ 1000) (hKb : K ≤ 1000) (hcells : cells + (1 + N) ≤ R.cells) (hslots : slots + (N + N * K) ≤ R.slots) (hdg : decode cc pc = .ok (.multianewarray index 2, 4))
    (kk : ∀ (q : Nat) (LP : List Nat) (g : Nat → Option Nat) (H1 : Heap), gr_ok g LP (fun _ => K) (fun _ _ => (0 : Int32)) N K (fun _ _ => 0) → va_P D vwCl ((X ++ [(q, .inl (cJ, N, .inr (.inr (.inr (.inr g)))))]) ++ va_pl LP (gF cI (fun _ => K) (fun _ _ => 0))) H1 → va_D A ((X ++ [(q, .inl (cJ, N, .inr (.inr (.inr (.inr g)))))]) ++ va_pl LP (gF cI (fun _ => K) (fun _ _ => 0))) → va_S A H0 H1 locs →
      W p l e R s m args below meth c H1 locs (cells + 1 + N) (slots + N + N * K) Q (F0 m (pc + 4) ls (.ref q :: rest))) : W p l e R s m args below meth c H locs cells slots Q (F0 m pc ls (.int (nI K) :: .int (nI N) :: rest)) := by
  have e0 : X ++ va_pl [] (gF cI (fun _ => K) (fun _ _ => 0)) = X := List.append_nil X
  have f0 : s.vm.findClass (FieldType.array .int).toString = some cI := (hK.2 t0 _ ht0).2
  have f1 : s.vm.findClass ("[" ++ (FieldType.array .int).toString) = some cJ := (hK.2 t1 _ ht1).2
  refine va_mna (X := X) (L := []) (f := gF cI (fun _ => K) (fun _ _ => 0)) (ty := .int) (cy := cI) (z := (K, .inl (fun _ => 0))) hexec hb hown hclink hover harr f0 hK (by rw [e0]; exact hP) (by rw [e0]; exact hD) hS hA (nI_pos (by omega)) (nI_pos (by omega)) (nI_clamp (by omega)) (nI_clamp (by omega)) (by omega) (by show K * 4 ≤ _; omega) (by omega) rfl rfl hcells hslots (fun c => ?_) hdg (fun q r cA H1 hinj hnot hK1 hP1 hD1 hS1 => ?_)
  · show ({ cls := c, slots := Array.replicate K (.int 0), vm := .none } : Cell) = arrV c K (fun _ => .int 0)
    unfold arrV
    congr 1
    apply Array.ext
    · simp
    · intro i h1 h2; simp
  · have e1 : s.vm.findClass ("[" ++ (FieldType.array .int).toString) = some cA := (hK1.2 tys.length (cA, .array .int) (by rw [List.getElem?_append_right (Nat.le_refl _), Nat.sub_self]; rfl)).2
    have e2 : cA = cJ := Option.some.inj (e1.symm.trans f1)
    subst e2
    have e3 : va_pl ([] ++ (List.range N).map r) (vr_up (gF cI (fun _ => K) (fun _ _ => 0)) ((List.range N).map r) (.inl (cI, (K, .inl (fun _ => 0))))) = va_pl ((List.range N).map r) (gF cI (fun _ => K) (fun _ _ => 0)) := by
      rw [List.nil_append]
      unfold va_pl
      apply List.map_congr_left
      intro a ha
      rw [vr_up_in ha]; rfl
    rw [e3] at hP1 hD1
    refine kk q ((List.range N).map r) _ H1 ⟨fun i hi => ⟨r i, if_pos hi, List.mem_map.mpr ⟨i, List.mem_range.mpr hi, rfl⟩, rfl, fun _ _ => rfl⟩, fun i j hi hj h => ?_⟩ hP1 hD1 hS1
    rw [if_pos hi, if_pos hj] at h
    exact hinj i j hi hj (Option.some.inj h)
end
/-- the reference's scores at first, k of them laid -/
def sc0 (k : Nat) : Nat → Int32 := fun j => if j < k then (if j / 8 = j % 8 then 1 else -1) else 0
theorem sc0_0 : sc0 0 = fun _ => 0 := by funext j; unfold sc0; rw [if_neg (by omega)]
theorem sc0_s {k : Nat} {v : Int32} (hv : v = if k / 8 = k % 8 then 1 else -1) : upd (sc0 k) k v = sc0 (k + 1) := by
  funext j
  unfold sc0 upd
  by_cases h : j = k
  · subst h; rw [if_pos rfl, if_pos (by omega)]; exact hv
  · rw [if_neg h]
    show (if j < k then (if j / 8 = j % 8 then (1 : Int32) else -1) else 0) = _
    by_cases h2 : j < k
    · rw [if_pos h2, if_pos (show j < k + 1 by omega)]
    · rw [if_neg h2, if_neg (show ¬ j < k + 1 by omega)]
/-- two pools of rows are one -/
theorem pool_join {A : Nat → Prop} {X : va_W} {LP1 LP2 : List Nat} {cI : ClassId} {pl1 pl2 : Nat → Nat} {pr1 pr2 : Nat → Nat → Int32} (hD : va_D A (X ++ (va_pl LP2 (gF cI pl2 pr2) ++ va_pl LP1 (gF cI pl1 pr1)))) :
    (∀ a, a ∈ LP1 → a ∉ LP2) ∧ va_pl LP2 (gF cI pl2 pr2) ++ va_pl LP1 (gF cI pl1 pr1) = va_pl (LP2 ++ LP1) (gF cI (fun a => if a ∈ LP2 then pl2 a else pl1 a) (fun a => if a ∈ LP2 then pr2 a else pr1 a)) := by
  have hdis : ∀ a, a ∈ LP1 → a ∉ LP2 := by
    intro a h1 h2
    obtain ⟨i, hi⟩ := List.getElem?_of_mem (show (a, gF cI pl2 pr2 a) ∈ va_pl LP2 (gF cI pl2 pr2) from List.mem_map.mpr ⟨a, h2, rfl⟩)
    obtain ⟨j, hj⟩ := List.getElem?_of_mem (show (a, gF cI pl1 pr1 a) ∈ va_pl LP1 (gF cI pl1 pr1) from List.mem_map.mpr ⟨a, h1, rfl⟩)
    have hil := (List.getElem?_eq_some_iff.mp hi).1
    have e1 : (X ++ (va_pl LP2 (gF cI pl2 pr2) ++ va_pl LP1 (gF cI pl1 pr1)))[X.length + i]? = some (a, gF cI pl2 pr2 a) := by
      rw [List.getElem?_append_right (by omega), Nat.add_sub_cancel_left, List.getElem?_append_left hil]; exact hi
    have e2 : (X ++ (va_pl LP2 (gF cI pl2 pr2) ++ va_pl LP1 (gF cI pl1 pr1)))[X.length + ((va_pl LP2 (gF cI pl2 pr2)).length + j)]? = some (a, gF cI pl1 pr1 a) := by
      rw [List.getElem?_append_right (by omega), Nat.add_sub_cancel_left, List.getElem?_append_right (by omega), Nat.add_sub_cancel_left]; exact hj
    have := hD.1 _ _ _ _ e1 e2 rfl
    omega
  refine ⟨hdis, ?_⟩
  unfold va_pl
  rw [List.map_append]
  congr 1
  · apply List.map_congr_left
    intro a ha
    simp only [gF, if_pos ha]
  · apply List.map_congr_left
    intro a ha
    simp only [gF, if_neg (hdis a ha)]
theorem gr_keep {g : Nat → Option Nat} {LP LP' : List Nat} {pl pl' : Nat → Nat} {pr pr' M : Nat → Nat → Int32} {n k : Nat} (h : gr_ok g LP pl pr n k M) (hL : ∀ a, a ∈ LP → a ∈ LP') (hp : ∀ a, a ∈ LP → pl' a = pl a ∧ pr' a = pr a) : gr_ok g LP' pl' pr' n k M := by
  refine ⟨fun i hi => ?_, h.2⟩
  obtain ⟨y, h1, h2, h3, h4⟩ := h.1 i hi
  exact ⟨y, h1, hL y h2, by rw [(hp y h2).1]; exact h3, fun j hj => by rw [(hp y h2).2]; exact h4 j hj⟩
theorem gr_c {g : Nat → Option Nat} {LP : List Nat} {pl : Nat → Nat} {pr M M' : Nat → Nat → Int32} {n k : Nat} (h : gr_ok g LP pl pr n k M) (hM : ∀ i j, i < n → j < k → M i j = M' i j) : gr_ok g LP pl pr n k M' := by
  refine ⟨fun i hi => ?_, h.2⟩
  obtain ⟨y, h1, h2, h3, h4⟩ := h.1 i hi
  exact ⟨y, h1, h2, h3, fun j hj => (h4 j hj).trans (hM i j hi hj)⟩
