noncomputable section KV11_m_ldcw
/-! A literal by ldc_w. -/
theorem k_ldcW {p : Program} {l : Launch} {e : Env} {R : Room} {s : State} {m : MethodId} {args : Array Value} {below : List Frame} {meth : Method} {c : Code} {T : State} {locs : List Loc} {cells slots : Nat}
    (X : Stand p l e R s m args below meth c T locs cells slots) (hexec : p.tables.exec = Jvm.exec) {own text : String} {index : Nat} {a : Addr} (hown : s.vm.findClass own = some m.cls)
    (hconst : (Cond.stringRef own index text).before args s = true) (hev : (Term.string own index).eval args s none [] s = some (.ref a)) {g : JFrame} (hg : g.method = m) (hdg : decode c.code g.pc = .ok (.ldc_w index, 3)) :
    ∀ target, Steps p.tables e below (T.setTop { g with pc := g.pc + 3, stack := .ref a :: g.stack }) target → Steps p.tables e below (T.setTop g) target := by
  obtain ⟨k, cf, i, a', hk, hcf, hcp, -, hr, hev'⟩ := Cond.stringRef_spec hown hconst
  cases hev.symm.trans hev'
  obtain ⟨k', hk', he⟩ := X.warmed.alike.2.2 _ _ hk
  have hr' : k'.resolved[index]? = some (some (.string a)) := by
    rcases X.warmed.entry hk hk' index with h | ⟨h, -⟩
    · rw [h]; exact hr
    · rw [hr] at h; cases h
  intro target hrest
  subst hg
  jvm_step X.here [hexec, hdg, ldc_w.wp_string (e := e) (s := T) (f := g) X.here.top hk' (by rw [he]; exact hcf) hcp hr']
  exact hrest
section EvLW
variable {p : Program} {l : Launch} {e : Env} {R : Room} {s : State} {m : MethodId} {args : Array Value} {below : List Frame} {meth : Method} {c : Code} {Q : State → Prop} {nL : Nat} {D : va_G} {cl : List vw_C} {A : Nat → Prop} {H0 : Heap} {ex : Nat → Value} {ad0 : List Nat} {tyOf : Nat → FieldType}
variable {cc : ByteArray} {pc : Nat}
theorem ev_ldcsw2_ok (hx : p.tables.exec = Jvm.exec) (hb : c.code = cc) {own tx : String} {index j : Nat} (ho : s.vm.findClass own = some m.cls) (hZ : ∃ q, ex j = .ref q ∧ vk_R own index tx q s) (hd : decode cc pc = .ok (.ldc_w index, 3)) : ev_Sim p l e R s m args below meth c Q nL D cl A H0 ex ad0 tyOf pc (ev_push (pc + 3) (ev_ext j)) := by
  obtain ⟨q, h1, h2⟩ := hZ
  intro st pc' st' h g
  obtain ⟨stk, r⟩ := st
  cases h
  intro H locs ls lv sv ws tys hK hP hD hS hh hl hn hL hs T hT X
  obtain ⟨t, a1, b1⟩ := g H locs ls lv (.ref q :: sv) ws tys hK hP hD hS hh hl hn hL ⟨_, _, rfl, ⟨h1.symm, Or.inr ⟨q, rfl⟩⟩, hs⟩ T hT X
  exact ⟨t, k_ldcW X hx ho (text := tx) (a := q) h2.1 h2.2 (g := F0 m pc ls sv) rfl (by rw [hb]; exact hd) t a1, b1⟩
end EvLW
end KV11_m_ldcw
