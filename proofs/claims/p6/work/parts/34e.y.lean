noncomputable section KV34e_y
/-! AN ARRAY OF ARRAYS IS READ. -/
section KAld
variable {p : Program} {l : Launch} {e : Env} {R : Room} {s : State} {m : MethodId} {args : Array Value} {below : List Frame} {meth : Method} {c : Code} {Q : State → Prop} {nL : Nat} {D : va_G} {cl : List vw_C} {A : Nat → Prop} {H0 : Heap} {ex : Nat → Value} {ad0 : List Nat} {tyOf : Nat → FieldType} {cc : ByteArray} {pc : Nat}
theorem k_aaldA_ok (hx : p.tables.exec = Jvm.exec) (hb : c.code = cc) {tc : Nat} {t : FieldType} (htc : tyOf tc = .array t) (hd : decode cc pc = .ok (.aaload, 1)) : ev_Sim p l e R s m args below meth c Q nL D cl A s.heap ex ad0 tyOf pc (ev_ald (pc + 1) tc) := by
  intro st pc' st' h g
  obtain ⟨i, k, stk, len, els, v, e1, hq, hv, rfl, rfl⟩ := ev_ald_i h
  intro H locs ls lv sv ws tys hK hP hD hS hh hl hn hL hs
  rw [e1] at hs
  obtain ⟨w, r, rfl, ⟨x, rfl, hx1, hx2⟩, w2, r2, rfl, hw2, hr⟩ := hs
  obtain ⟨a, e2, hwk, rfl⟩ := ev_place hw2
  obtain ⟨cA, x9, rfl, hlen, hlt, ⟨t0, ht0⟩, hel⟩ := ev_cell hh hwk hq
  rw [htc] at ht0 hel
  obtain ⟨f, rfl, hf⟩ := hel
  obtain ⟨f1, f2⟩ := ev_ix hx1 hx2
  have hi : i < len := by rw [← hlen]; exact (List.getElem?_eq_some_iff.mp hv).1
  have hin : vp_in x len := f2 len hi
  have hlt9 : x.toNatClampNeg < len := Nat.not_le.mp fun q => hin (Or.inr q)
  refine W.aald (v := va_rf (f x.toNatClampNeg)) (ty := .array t) hx hb (hP k _ hwk) ((hK.2 t0 _ ht0).1 len (fun j => va_rf (f j))) rfl (fun q => by cases q) (by show ¬ (x < 0 ∨ (arrV _ _ _).slots.size ≤ _); rw [arrV_size]; exact hin) (by show (arrV _ _ _).slots[_]? = _; rw [arrV_read _ _ hlt9]) rfl rfl hd ?_
  rw [f1]
  exact g H locs ls lv (va_rf (f i) :: r2) ws tys hK hP hD hS hh hl hn hL ⟨_, _, rfl, hf i v hv, hr⟩
end KAld
end KV34e_y
