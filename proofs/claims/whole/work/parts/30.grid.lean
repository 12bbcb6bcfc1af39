section
variable {p : Program} {l : Launch} {e : Env} {R : Room} {s : State} {m : MethodId} {args : Array Value} {below : List Frame} {meth : Method} {c : Code} {H : Heap} {locs : List Loc} {cells slots : Nat} {Q : State → Prop}
variable {cc : ByteArray} {pc : Nat} {ls : Array Slot} {rest : List Value} {D : va_G} {cl : List vw_C} {A : Nat → Prop} {a : Nat} {tys : List (ClassId × FieldType)} {ws : va_W} {H0 : Heap}
/-- the rows of grids, pooled -/
def gF (cI : ClassId) (pl : Nat → Nat) (pr : Nat → Nat → Int32) : Nat → va_E := fun a => .inl (cI, pl a, .inl (pr a))
theorem gF_up {cI : ClassId} {pl : Nat → Nat} {pr : Nat → Nat → Int32} {y : Nat} {r : Nat → Int32} : va_up (gF cI pl pr) y (.inl (cI, pl y, .inl r)) = gF cI pl (va_up pr y r) := by
  funext z
  by_cases h : z = y
  · subst h
    show va_up (gF cI pl pr) z _ z = .inl (cI, pl z, .inl (va_up pr z r z))
    rw [va_up_self, va_up_self]
  · show va_up (gF cI pl pr) y _ z = .inl (cI, pl z, .inl (va_up pr y r z))
    rw [va_up_ne _ _ h, va_up_ne _ _ h]; rfl
def gUp (M : Nat → Nat → Int32) (i j : Nat) (v : Int32) : Nat → Nat → Int32 := fun a b => if a = i ∧ b = j then v else M a b
theorem gUp_s {M : Nat → Nat → Int32} {i j : Nat} {v : Int32} : gUp M i j v i j = v := if_pos ⟨rfl, rfl⟩
theorem gUp_n {M : Nat → Nat → Int32} {i j a b : Nat} {v : Int32} (h : ¬ (a = i ∧ b = j)) : gUp M i j v a b = M a b := if_neg h
theorem gUp_ok {g : Nat → Option Nat} {LP : List Nat} {pl : Nat → Nat} {pr M : Nat → Nat → Int32} {n k i j y : Nat} {v : Int32} (h : gr_ok g LP pl pr n k M) (hi : i < n) (hy : g i = some y) (hM : ∀ j, j < k → pr y j = M i j) : gr_ok g LP pl (va_up pr y (upd (pr y) j v)) n k (gUp M i j v) :=
  gr_put h hi hy (fun b hb => by
    by_cases e : b = j
    · subst e; rw [pk_us, gUp_s]
    · rw [pk_un e, gUp_n (fun q => e q.2)]; exact hM b hb) (fun a b _ ha _ => gUp_n (fun q => ha q.1))
theorem va_aldG (hexec : p.tables.exec = Jvm.exec) (hb : c.code = cc) (hK : va_K D cl tys s) (hP : va_P D cl ws H) (q0 t0 : Nat) {cA : ClassId} {n : Nat} {f : Nat → Option Nat} (ha : ws[q0]? = some (a, .inl (cA, n, .inr (.inr (.inr (.inr f)))))) (ht : tys[t0]? = some (cA, .array .int)) {k y : Nat} (hy : f k = some y) (hk : k < n) (hn : n < 2 ^ 31) (hdg : decode cc pc = .ok (.aaload, 1))
    (kk : W p l e R s m args below meth c H locs cells slots Q (F0 m (pc + 1) ls (.ref y :: rest))) : W p l e R s m args below meth c H locs cells slots Q (F0 m pc ls (.int (nI k) :: .ref a :: rest)) := by
  have hcl : (nI k).toNatClampNeg = k := nI_clamp (by omega)
  have hin : vp_in (nI k) n := vp_in_nI hk hn
  have hlt : (nI k).toNatClampNeg < n := by rw [hcl]; exact hk
  have ev : va_rf (f (nI k).toNatClampNeg) = .ref y := by rw [hcl, hy]; rfl
  refine W.aald (v := va_rf (f (nI k).toNatClampNeg)) (ty := .array .int) hexec hb (hP q0 _ ha) ((hK.2 t0 _ ht).1 n (fun j => va_rf (f j))) rfl (fun q => by cases q) (by show ¬ (nI k < 0 ∨ (arrV _ _ _).slots.size ≤ _); rw [arrV_size]; exact hin) (by show (arrV _ _ _).slots[_]? = _; rw [arrV_read _ _ hlt]) rfl rfl hdg ?_
  rw [ev]; exact kk
theorem pre_P {cx pl : va_W} (hP : va_P D cl (cx ++ pl) H) : va_P D cl cx H := fun k q hk => hP k q (by
  have h1 := (List.getElem?_eq_some_iff.mp hk).1
  rw [List.getElem?_append_left h1]; exact hk)
theorem pre_D {cx pl : va_W} (hD : va_D A (cx ++ pl)) : va_D A cx := by
  have key : ∀ (k : Nat) (q : Nat × va_E), cx[k]? = some q → (cx ++ pl)[k]? = some q := fun k q hk => by
    have h1 := (List.getElem?_eq_some_iff.mp hk).1
    rw [List.getElem?_append_left h1]; exact hk
  exact ⟨fun i j x y hx hy hxy => hD.1 i j x y (key i x hx) (key j y hy) hxy, fun k q hk => hD.2 k q (key k q hk)⟩
/-- over a pool: the callee doesn't have it -/
theorem fr_q {X cx wr pl : va_W} (hP : va_P D cl (X ++ pl) H) (hD : va_D A (X ++ pl)) (hS : va_S A H0 H locs) (hA : ∀ q, H0.size ≤ q → A q) (isC isR : List Nat) (hC : isC.map (fun i => X[i]?) = cx.map some) (hR : isR.map (fun i => X[i]?) = wr.map some) (hnC : va_nd isC = true) (hnR : va_nd isR = true) (hdis : ∀ i ∈ isR, i ∉ isC) :
    va_P D cl cx H ∧ va_D A cx ∧ (∀ q, va_A cx H.size q → A q) ∧ ∀ (w1 : va_W) (H1 : Heap), (∀ q : Nat, q < H.size → ¬ va_A cx H.size q → H1[q]? = H[q]?) → va_P D cl w1 H1 → va_D (va_A cx H.size) w1 → va_P D cl ((wr ++ w1) ++ pl) H1 ∧ va_D A ((wr ++ w1) ++ pl) := by
  have hD1 := pre_D (hD.part isC hnC hC)
  have hF : ∀ q, va_A cx H.size q → A q := fun q h => h.elim (fun ⟨k, e, h⟩ => hD1.2 k _ h) (fun h => hA q (Nat.le_trans hS.1 h))
  exact ⟨pre_P (hP.part isC hC), hD1, hF, fun w1 H1 hk h1 h2 => va_joinQ hP hD isC isR hC hR hnR hdis hk hF h1 h2⟩
end
