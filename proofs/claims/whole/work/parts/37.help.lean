section
variable {p : Program} {l : Launch} {e : Env} {R : Room} {s : State} {m : MethodId} {args : Array Value} {below : List Frame} {meth : Method} {c : Code} {H : Heap} {locs : List Loc} {cells slots : Nat} {Q : State → Prop}
variable {cc bytes : ByteArray} {pc index maxL nL mc ms n : Nat} {ls : Array Slot} {rest st0 As : List Value} {D : va_G} {A : Nat → Prop} {tys : List (ClassId × FieldType)} {H0 : Heap} {own C : String} {y : MethodName} {ret : Option FieldType} {wsy Ts : List Cond} {rm : Room} {b ci q0 : Nat} {fs : List Value} {qc : vw_C} {S : Type} {wc ws : va_W} {w1 J : S → va_W}
/-- a call of a method by its object: the reference a0 comes back -/
theorem cv_r {a0 : Nat} (fx : CallFix p m c cc nL s args Ts own)
    (hM : Met l y wsy rm (va_Pc (.ref b :: As) (Wd D tys wc H.size)) (va_Qr (fun (_ : Unit) => True) (fun _ a t => a = a0 ∧ Wa D tys (va_A wc H.size) wc t) (va_A wc H.size)) mc ms (va_A wc H.size))
    (cw : CallW R s args own C index y bytes maxL ret wsy rm mc ms n) (hK : va_K D vwCl tys s) (hPc : va_P D vwCl wc H) (hDc : va_D A wc) (hF : ∀ q, va_A wc H.size q → A q)
    {j : va_W} (hJ : ∀ (H1 : Heap), (∀ q : Nat, q < H.size → ¬ va_A wc H.size q → H1[q]? = H[q]?) → va_P D vwCl wc H1 → va_D (va_A wc H.size) wc → va_P D vwCl j H1 ∧ va_D A j)
    (hS : va_S A H0 H locs) (hcl : vwCl[ci]? = some qc) (hq : qc.1 = C) (he : wc[q0]? = some (b, .inr (ci, fs))) (hn : As.length = n) (hsz : ls.size = nL) (hst : st0 = As.reverse ++ .ref b :: rest) (hW : (rest.map fun v => v.category).sum ≤ 8) (hdg : decode cc pc = .ok (.invokevirtual index, 3)) (hf : cells + mc ≤ R.cells ∧ slots + ms ≤ R.slots)
    (kk : ∀ (H1 : Heap) (locs1 : List Loc), va_P D vwCl j H1 → va_D A j → va_S A H0 H1 locs1 → W p l e R s m args below meth c H1 locs1 (cells + mc) (slots + ms) Q (F0 m (pc + 3) ls (.ref a0 :: rest))) : W p l e R s m args below meth c H locs cells slots Q (F0 m pc ls st0) := by
  refine va_callr (va_runV (As := As) (rest := rest) fx hM cw ⟨wd_blind, ?_, wd_pre hPc hK hDc⟩ rfl hn hsz hst (lv_room hW) hdg hf) hS (fun q _ h => hF q h) hF (fun u ra t H1 locs1 ht hvm hw hB hz hk hS1 => ?_)
  · obtain ⟨cell, h1, h2, h3⟩ := va_recv hK hPc hcl he
    exact ⟨cell, h1, h2, hq ▸ h3⟩
  · obtain ⟨rfl, hP1, -, hD1⟩ := hB
    rw [ht] at hP1
    obtain ⟨a1, a2⟩ := hJ H1 hk hP1 hD1
    exact kk H1 locs1 a1 a2 hS1
theorem fin_r {a0 : Nat} {rt : String} (hx : p.tables.exec = Jvm.exec) (hb : c.code = cc) (hr : meth.sig.returnType = some (.object rt)) (hlocks : meth.locks = false) (hdg : decode cc pc = .ok (.areturn, 1)) (hK : va_K D vwCl tys s) (hS : va_S A s.heap H locs) (hP : va_P D vwCl ws H) (hD : va_D A ws) :
    W p l e R s m args below meth c H locs cells slots (MQ below (va_Qr (fun (_ : Unit) => True) (fun _ a t => a = a0 ∧ Wa D tys A ws t) A) args s cells slots A) (F0 m pc ls [.ref a0]) :=
  W.aret hx hb hr (Or.inl ⟨rt, rfl⟩) (Or.inr ⟨a0, rfl⟩) (fun t ht hW => ⟨⟨(), a0, rfl, trivial, rfl, by rw [ht]; exact hP, va_K.moved hW.alike hK, hD⟩, hS.F ht⟩) hS.2.2 hdg
end
