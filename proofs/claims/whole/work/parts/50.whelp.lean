section
variable {p : Program} {l : Launch} {e : Env} {R : Room} {s : State} {m : MethodId} {args : Array Value} {below : List Frame} {meth : Method} {c : Code} {H : Heap} {locs : List Loc} {cells slots : Nat} {Q : State → Prop}
variable {cc : ByteArray} {pc : Nat} {ls : Array Slot} {rest : List Value} {D : va_G} {cl : List vw_C} {A : Nat → Prop} {a : Nat} {tys : List (ClassId × FieldType)} {ws : va_W} {H0 : Heap}
theorem va_lastN (hexec : p.tables.exec = Jvm.exec) (hb : c.code = cc) (hK : va_K D cl tys s) (hP : va_P D cl ws H) (hD : va_D A ws) (hS : va_S A H0 H locs) (q0 t0 : Nat) {cA : ClassId} {n : Nat} {f : Nat → Int64} (ha : ws[q0]? = some (a, .inl (cA, n, .inr (.inl f)))) (ht : tys[t0]? = some (cA, .long)) {x : Int64} (hn : 0 < n) (hn2 : n < 2 ^ 31) (hdg : decode cc pc = .ok (.lastore, 1))
    (kk : ∀ (H1 : Heap) (locs1 : List Loc), va_P D cl (ws.set q0 (a, .inl (cA, n, .inr (.inl (vp_updL f 0 x))))) H1 → va_D A (ws.set q0 (a, .inl (cA, n, .inr (.inl (vp_updL f 0 x))))) → va_S A H0 H1 locs1 → W p l e R s m args below meth c H1 locs1 cells slots Q (F0 m (pc + 1) ls rest)) : W p l e R s m args below meth c H locs cells slots Q (F0 m pc ls (.long x :: .int 0 :: .ref a :: rest)) := by
  have e0 : (0 : Int32).toNatClampNeg = 0 := by decide
  refine va_last hexec hb hK hP hD hS q0 t0 ha ht (vp_in_nI hn hn2) hdg (fun H1 locs1 h1 h2 h3 => ?_)
  rw [e0] at h1 h2
  exact kk H1 locs1 h1 h2 h3
theorem va_laldN (hexec : p.tables.exec = Jvm.exec) (hb : c.code = cc) (hK : va_K D cl tys s) (hP : va_P D cl ws H) (q0 t0 : Nat) {cA : ClassId} {n : Nat} {f : Nat → Int64} (ha : ws[q0]? = some (a, .inl (cA, n, .inr (.inl f)))) (ht : tys[t0]? = some (cA, .long)) (hn : 0 < n) (hn2 : n < 2 ^ 31) (hdg : decode cc pc = .ok (.laload, 1))
    (kk : W p l e R s m args below meth c H locs cells slots Q (F0 m (pc + 1) ls (.long (f 0) :: rest))) : W p l e R s m args below meth c H locs cells slots Q (F0 m pc ls (.int 0 :: .ref a :: rest)) := by
  have e0 : (0 : Int32).toNatClampNeg = 0 := by decide
  refine va_lald hexec hb hK hP q0 t0 ha ht (vp_in_nI hn hn2) hdg ?_
  rw [e0]; exact kk
/-- a new array of longs, its class as the tables have it already -/
theorem va_newL (hexec : p.tables.exec = Jvm.exec) (hb : c.code = cc) (harr : (Cond.arrayClass .long).before args s = true) (hK : va_K D cl tys s) (t0 : Nat) {cL : ClassId} (ht : tys[t0]? = some (cL, .long)) (hP : va_P D cl ws H) (hD : va_D A ws) (hS : va_S A H0 H locs) (hA : ∀ q, H0.size ≤ q → A q)
    {k : Nat} (hk : k ≤ 1000000) (hcells : cells + 1 ≤ R.cells) (hslots : slots + k ≤ R.slots) (hdg : decode cc pc = .ok (.newarray .long, 2))
    (kk : ∀ (q : Nat) (H1 : Heap), va_P D cl (ws ++ [(q, .inl (cL, k, .inr (.inl (fun _ => 0))))]) H1 → va_D A (ws ++ [(q, .inl (cL, k, .inr (.inl (fun _ => 0))))]) → va_S A H0 H1 locs → W p l e R s m args below meth c H1 locs (cells + 1) (slots + k) Q (F0 m (pc + 2) ls (.ref q :: rest))) : W p l e R s m args below meth c H locs cells slots Q (F0 m pc ls (.int (nI k) :: rest)) := by
  have hk2 : k < 2147483648 := by omega
  have hby : k * componentBytes FieldType.long ≤ 536870912 := by
    have h4 : componentBytes FieldType.long = 8 := by decide
    rw [h4]; omega
  have hvc : ∀ cA : ClassId, vp_cell cA (k, .inr (.inl (fun _ => (0 : Int64)))) = arrV cA k (fun _ => defaultValue FieldType.long) := fun cA => vp_cell_l cA k _
  refine va_newa (atype := .long) (a0 := (k, .inr (.inl (fun _ => 0)))) (ty := FieldType.long) (N' := k) hexec hb harr rfl hK hP hD hS hA hvc (nI_pos hk2) (nI_clamp hk2) hby hcells hslots hdg (fun q cA H1 g0 g1 g2 g3 => ?_)
  have e1 : s.vm.findClass ("[" ++ FieldType.long.toString) = some cA := (g0.2 tys.length (cA, .long) (by rw [List.getElem?_append_right (Nat.le_refl _), Nat.sub_self]; rfl)).2
  have e2 : s.vm.findClass ("[" ++ FieldType.long.toString) = some cL := (hK.2 t0 (cL, .long) ht).2
  have e : cA = cL := Option.some.inj (e1.symm.trans e2)
  subst e
  exact kk q H1 g1 g2 g3
end
