noncomputable section KV85_start
/-! FROM THE LAW'S ENTRY DOWN TO THE END. -/
theorem k_legL {l : Launch} {D : va_G} {A : Nat → Prop} {ex : Nat → Value} {p : Program} {e : Env} {R : Room} {s : State} {m : MethodId} {args : Array Value} {below : List Frame} {meth : Method} {c : Code} (S : CallFix p m c cL_law 7 s args ev_W RL) (hXs : ev_XT A ex s) (hA : ∀ q, s.heap.size ≤ q → A q) (hX : k_X e s R.frames) {stk as rest : List ev_V} {L : List (Option ev_V)} {h : ev_Hp} {c1 n1 F' Lo' Ce' Sl' : Nat}
    (hp : ev_pops 2 stk [] = some (as, rest)) (hrc : ev_recv 13 h as = true) (hcat : ev_cats rest ≤ 8) (hlay : (ev_lay as).length ≤ ev_nL 105) (hfr : F' + 1 = R.frames) (hlo : 8 + (ev_nL 105 + 11) + Lo' ≤ R.locals) (hce : c1 + Ce' ≤ R.cells) (hsl : n1 + Sl' ≤ R.slots) (g : k_G l D ev_cl A ex ev_ty (ev_XT A ex) ev_y ev_b ev_nL ev_ws 105 0 ([], ev_ent (ev_nL 105) as, h, (0, 0)) F' Lo' Ce' Sl') : ev_G p l e R s m args below meth c k_Q 7 D ev_cl A s.heap ex [] ev_ty 193 (stk, L, h, (c1, n1)) := by
  obtain ⟨bs, e1, e2, e3⟩ := ev_pops_i _ _ _ _ _ hp
  rw [List.append_nil] at e3
  subst e2 e3
  intro H locs ls lv sv ws tys hK hP hD hS hh hl hn hL hs
  obtain ⟨s1, s2, rfl, hlen, hs1, hs2⟩ := ev_kR_app hs
  have hv := ev_kR_rev hs1
  have hM := k_N_of (mc := k_mcB) k_tallB k_ex105 hlay g ws tys s1.reverse hv
  have hr := k_hopL (below := below) (meth := meth) S hXs hA hX (rm := ({ frames := F', cells := Ce', slots := Sl', locals := Lo' } : Room)) hfr hlo (H := H) (locs := locs) (cells := c1) (slots := n1) (ls := ls) (w := ws) (tys := tys) (h := h) (as := bs.reverse) (vals := s1.reverse) (rest := s2) hK hP hD hS hh hl.1 hv (by rw [List.length_reverse, hlen, e1]) hrc (by rw [ev_cats_ok hs2]; exact hcat) hce hsl hM
  rw [List.reverse_reverse] at hr
  exact hr
set_option maxHeartbeats 1000000 in
/-- the walk of the law from its entry: it comes to a halt -/
theorem k_start {p : Program} {e : Env} {s : State} {m : MethodId} {below : List Frame} {meth : Method} {c : Code} (l : Launch) (hl0 : l.stackTraces = false) {b : Nat} {xs : Nat → Int32} (hbx : ∀ (i : Nat) (v : Int × Int), k_bx[i]? = some v → i < 636 ∧ v.1 ≤ (xs i).toInt ∧ (xs i).toInt ≤ v.2) (hname : meth.name = "law") (C0 : lw_At p s m meth c b 636 xs) (hX9 : k_X e s 2048) : W p l e room_1 s m #[Value.ref b] below meth c s.heap [] 0 0 k_Q (entryFrame m ([Value.ref b] : List Value).toArray 7) := by
  obtain ⟨hx, hb, hr, hml, hown, hts, hX, hbl, hlocks, hgv⟩ := id C0
  obtain ⟨ex, hj, hXs⟩ := ev_XT0 hts hgv
  have htW : ∀ w ∈ ev_W, w.before #[Value.ref b] s = true := fun w hw => hts w (ev_Win w hw)
  obtain ⟨D, hK⟩ := ev_kn2 htW
  have hA : ∀ q : Nat, s.heap.size ≤ q → (fun q : Nat => s.heap.size ≤ q) q := fun _ h => h
  have hbA : ¬ (fun q : Nat => s.heap.size ≤ q) b := Nat.not_le.mpr hbl
  have S : CallFix p m c cL_law 7 s #[Value.ref b] ev_W RL := ⟨hx, hb, hml, hown, htW⟩
  have hE := k_s20 (D := D) (A := fun q : Nat => s.heap.size ≤ q) (ex := ex) hl0
  have sim : ∀ (pc : Nat) (f : ev_I), ev_mL k_E1 636 k_bx pc = some (.inl f) → ev_Sim p l e room_1 s m #[Value.ref b] below meth c k_Q 7 D ev_cl (fun q : Nat => s.heap.size ≤ q) s.heap ex [] ev_ty pc f := fun pc f hf => ev_tL (R := room_1) (Or.inl (by decide)) (by decide) (by decide) (by decide +kernel) (by decide +kernel) hE hXs hA S hname hX hbl hbA hj (by decide) hbx pc f hf
  have g193 : ev_G p l e room_1 s m #[Value.ref b] below meth c k_Q 7 D ev_cl (fun q : Nat => s.heap.size ≤ q) s.heap ex [] ev_ty k_xL10.1 k_xL10.2 :=
    k_legL (R := room_1) S hXs hA hX9 (stk := k_xL10.2.1) (L := k_xL10.2.2.1) (h := k_xL10.2.2.2.1) (c1 := 12758) (n1 := 139836) (as := k_asL) (rest := []) rfl (by decide +kernel) (by decide) (by decide +kernel) rfl (by decide +kernel) (by decide +kernel) (by decide +kernel) (k_G_le (a := k_z0.2.2.1) (by decide +kernel) k_g0)
  have g0 := k_R_G sim ((k_R_of k_eL).trans k_rL) g193
  have hl := lv_entry ([.ref b]) (n := 7) (Nat.le_of_ble_eq_true rfl)
  rw [lg_entry_eq]
  exact g0 s.heap [] _ _ [] [] [] hK (fun k q h => by simp at h) ⟨fun i j p q h => by simp at h, fun k q h => by simp at h⟩ va_S.rf ⟨rfl, Nat.zero_le _, fun k a h => h, fun k _ q h => by rw [ev_e0_none] at h; cases h⟩ hl rfl (ev_ent_ok (vals := [.ref b]) ⟨_, [], rfl, ⟨hj.symm, Or.inr ⟨b, rfl⟩⟩, rfl⟩) rfl
end KV85_start
