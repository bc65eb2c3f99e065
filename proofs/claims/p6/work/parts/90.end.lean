noncomputable section KV90_end
/-! A START WHOSE STACK IS SO FULL: THERE THE LAW NEVER RETURNS; SO THE CLAIM IS FALSE. -/
noncomputable def k_scr : List Int32 := k_bx.map (fun v => Int32.ofInt v.1)
theorem k_scr_n : k_scr.length = 636 := by decide +kernel
theorem k_bx_ok : k_bx.all (fun v => decide (v.1 = v.2) && decide ((Int32.ofInt v.1).toInt = v.1)) = true := by decide +kernel
theorem k_bx_at (i : Nat) (v : Int × Int) (h : k_bx[i]? = some v) : i < 636 ∧ v.1 ≤ (k_scr.getD i 0).toInt ∧ (k_scr.getD i 0).toInt ≤ v.2 := by
  have hi : i < k_bx.length := (List.getElem?_eq_some_iff.mp h).1
  have hn : k_bx.length = 636 := by rw [← k_scr_n]; unfold k_scr; rw [List.length_map]
  have h1 := List.all_eq_true.mp k_bx_ok v (List.mem_of_getElem? h)
  rw [Bool.and_eq_true, decide_eq_true_eq, decide_eq_true_eq] at h1
  have h2 : k_scr.getD i 0 = Int32.ofInt v.1 := by
    unfold k_scr
    rw [List.getD_eq_getElem?_getD, List.getElem?_map, h]
    rfl
  rw [h2, h1.2, ← h1.1]
  exact ⟨by rw [← hn]; exact hi, Int.le_refl _, Int.le_refl _⟩
theorem k_law (l : Launch) (hl0 : l.stackTraces = false) (b : Addr) : k_Met l x (Jvm.Cond.code x code maxLocals ret :: tables_1) room_1 (fun args s => args = #[.ref b] ∧ s.IntsAt b k_scr ∧ (Jvm.Cond.and given_1 narrow_1).before args s = true) := by
  refine k_ofB (cc := code) (maxL := maxLocals) (ret := ret) (by decide) ⟨tables_1, Or.inl rfl⟩ ?_
  intro p e s m args below meth c s₁ B hml0 hP hX9
  obtain ⟨rfl, hx, hgv⟩ := hP
  obtain ⟨scr, harrAt, hlist, hof, hsmall⟩ := hx
  obtain ⟨hcb, hkn, -, -⟩ := State.arrayAt?_spec harrAt
  have hown : s.vm.findClass R_law = some m.cls := findClass_of_methodNamed B.named
  have hname : meth.name = "law" := (name_of_methodNamed B.named B.method).1
  have hts0 : ∀ c ∈ (Jvm.Cond.code x code maxLocals ret :: tables_1), c.before #[Value.ref b] s = true := atoms_spec (ws := Jvm.Cond.code x code maxLocals ret :: tables_1) B.pre
  have hts : ∀ w ∈ lw_tbl, w.before #[Value.ref b] s = true := k2_hts_sels lw_privs (fun w hw => hts0 w (List.mem_cons_of_mem _ hw)) lw_privs_ok
  have hml : c.maxLocals = 7 := hml0
  have hsz : scr.slots.size = 636 := by rw [← Array.length_toList, hlist, List.length_map, k_scr_n]
  have hval : ∀ j : Nat, j < 636 → scr.slots[j]? = some (.int (k_scr.getD j 0)) := fun j hj => by
    have hj9 : j < k_scr.length := by rw [k_scr_n]; exact hj
    rw [← Array.getElem?_toList, hlist]
    simp [hj9]
  have hbl : b < s.heap.size := (Array.getElem?_eq_some_iff.mp hcb).1
  have hX : va_X b 636 (fun j => k_scr.getD j 0) s s.heap := ⟨scr, hcb, hof, hkn, hsz, hval⟩
  exact k_start l hl0 k_bx_at hname ⟨B.exec, B.bytes, B.returns, hml, hown, hts, hX, hbl, B.notSynchronized, hgv⟩ hX9
theorem k_halted {tb : Tables} {e : Env} : ∀ (n : Nat) {t : State}, t.status ≠ .running → stepsAlone tb e n t = t
  | 0, _, _ => rfl
  | n + 1, t, h => by
    rw [stepsAlone]
    split
    · next h1 _ _ => exact absurd h1 h
    · rfl
theorem k_never {tb : Tables} {e : Env} {below : List Frame} {s t : State} {n : Nat} {o : Outcome} (hq : t.status ≠ .running) (hst : Steps tb e below s t) (hrun : (stepsAlone tb e n s).status = .running) (hend : Ended (stepsAlone tb e n s) below o) : False := by
  obtain ⟨n1, h1, h2⟩ := hst
  rcases Nat.lt_or_ge n n1 with h | h
  · exact hend.not_within (h2 n h)
  · have e1 : stepsAlone tb e n s = t := by
      rw [show n = n1 + (n - n1) by omega, stepsAlone_add, h1]
      exact k_halted _ hq
    rw [e1] at hrun
    exact hq hrun
/-- frames below: the law's own class's (it hears of what is returned), and 2046 of a class that isn't there -/
def k_below : List Frame := .java (F0 ⟨0, 0⟩ 0 #[] []) :: List.replicate 2046 (.java (F0 ⟨9999, 0⟩ 0 #[] []))
noncomputable def k_s9 : State := { start1.aboutOf (k_scr.map Value.int).toArray with threads := #[{ frames := .invoking ⟨0, 0⟩ start1.args0 :: k_below }] }
noncomputable def k_e9 : Env := launch0.env 0 0 0 200000
theorem k_onT {A A' : Array Value} {U U' : State} (hv : U.vm = U'.vm) {c : Cond} (hc : c.onTables = true) : c.before A U = c.before A' U' := by
  have h := Cond.onTables_vm (A := A) (A' := A') (U := U) (U' := U') U.vm c hc
  have e1 : U.setVm U.vm = U := by cases U; rfl
  have e2 : U'.setVm U.vm = U' := by rw [hv]; cases U'; rfl
  rw [e1, e2] at h
  exact h
def k_off (w : Cond) : Bool := !w.onTables
set_option maxRecDepth 16384 in
theorem k_w9_1 : (tables_1_1.filter k_off).all (fun w => w.before start1.args0 k_s9) = true := by decide +kernel
set_option maxRecDepth 16384 in
theorem k_w9_2 : (tables_1_2.filter k_off).all (fun w => w.before start1.args0 k_s9) = true := by decide +kernel
set_option maxRecDepth 16384 in
theorem k_w9_3 : (tables_1_3.filter k_off).all (fun w => w.before start1.args0 k_s9) = true := by decide +kernel
set_option maxRecDepth 16384 in
theorem k_w9_4 : (tables_1_4.filter k_off).all (fun w => w.before start1.args0 k_s9) = true := by decide +kernel
set_option maxRecDepth 16384 in
theorem k_w9_5 : (tables_1_5.filter k_off).all (fun w => w.before start1.args0 k_s9) = true := by decide +kernel
set_option maxRecDepth 16384 in
theorem k_w9_6 : (tables_1_6.filter k_off).all (fun w => w.before start1.args0 k_s9) = true := by decide +kernel
set_option maxRecDepth 16384 in
theorem k_w9_7 : (tables_1_7.filter k_off).all (fun w => w.before start1.args0 k_s9) = true := by decide +kernel
set_option maxRecDepth 16384 in
theorem k_w9_8 : (tables_1_8.filter k_off).all (fun w => w.before start1.args0 k_s9) = true := by decide +kernel
set_option maxRecDepth 16384 in
theorem k_w9_9 : (tables_1_9.filter k_off).all (fun w => w.before start1.args0 k_s9) = true := by decide +kernel
set_option maxRecDepth 16384 in
theorem k_w9_10 : (tables_1_10.filter k_off).all (fun w => w.before start1.args0 k_s9) = true := by decide +kernel
set_option maxRecDepth 16384 in
theorem k_w9_11 : (tables_1_11.filter k_off).all (fun w => w.before start1.args0 k_s9) = true := by decide +kernel
set_option maxRecDepth 16384 in
theorem k_w9_12 : (tables_1_12.filter k_off).all (fun w => w.before start1.args0 k_s9) = true := by decide +kernel
set_option maxRecDepth 16384 in
theorem k_w9_13 : (tables_1_13.filter k_off).all (fun w => w.before start1.args0 k_s9) = true := by decide +kernel
set_option maxRecDepth 16384 in
theorem k_w9_14 : (tables_1_14.filter k_off).all (fun w => w.before start1.args0 k_s9) = true := by decide +kernel
set_option maxRecDepth 16384 in
theorem k_w9_15 : (tables_1_15.filter k_off).all (fun w => w.before start1.args0 k_s9) = true := by decide +kernel
set_option maxRecDepth 16384 in
theorem k_w9_16 : (tables_1_16.filter k_off).all (fun w => w.before start1.args0 k_s9) = true := by decide +kernel
set_option maxRecDepth 16384 in
theorem k_w9_17 : (tables_1_17.filter k_off).all (fun w => w.before start1.args0 k_s9) = true := by decide +kernel
set_option maxRecDepth 16384 in
theorem k_w9_18 : (tables_1_18.filter k_off).all (fun w => w.before start1.args0 k_s9) = true := by decide +kernel
set_option maxRecDepth 16384 in
theorem k_w9_19 : (tables_1_19.filter k_off).all (fun w => w.before start1.args0 k_s9) = true := by decide +kernel
set_option maxRecDepth 16384 in
theorem k_w9_20 : (tables_1_20.filter k_off).all (fun w => w.before start1.args0 k_s9) = true := by decide +kernel
theorem k_cut9 {l : List Cond} {q : Cond → Bool} (n : Nat) (h1 : ((l.take n).filter k_off).all q = true) (h2 : ((l.drop n).filter k_off).all q = true) : (l.filter k_off).all q = true := by
  rw [← List.take_append_drop n l, List.filter_append, List.all_append, h1, h2]
  rfl
set_option maxRecDepth 16384 in
theorem k_w9_21_0 : ((tables_1_21.take 60).filter k_off).all (fun w => w.before start1.args0 k_s9) = true := by decide +kernel
set_option maxRecDepth 16384 in
theorem k_w9_21_1 : (((tables_1_21.drop 60).take 60).filter k_off).all (fun w => w.before start1.args0 k_s9) = true := by decide +kernel
set_option maxRecDepth 16384 in
theorem k_w9_21_2 : (((tables_1_21.drop 120).take 60).filter k_off).all (fun w => w.before start1.args0 k_s9) = true := by decide +kernel
set_option maxRecDepth 16384 in
theorem k_w9_21_3 : ((tables_1_21.drop 180).filter k_off).all (fun w => w.before start1.args0 k_s9) = true := by decide +kernel
theorem k_w9_21 : (tables_1_21.filter k_off).all (fun w => w.before start1.args0 k_s9) = true := by
  refine k_cut9 60 k_w9_21_0 (k_cut9 60 k_w9_21_1 ?_)
  rw [List.drop_drop]
  refine k_cut9 60 ?_ ?_
  · exact k_w9_21_2
  · rw [List.drop_drop]; exact k_w9_21_3
set_option maxRecDepth 16384 in
theorem k_w9_22 : (tables_1_22.filter k_off).all (fun w => w.before start1.args0 k_s9) = true := by decide +kernel
set_option maxRecDepth 16384 in
theorem k_w9_23 : (tables_1_23.filter k_off).all (fun w => w.before start1.args0 k_s9) = true := by decide +kernel
theorem k_words8 : (tables_1.filter k_off).all (fun w => w.before start1.args0 k_s9) = true := by
  unfold tables_1
  simp only [List.filter_append, List.all_append, Bool.and_eq_true]
  exact ⟨k_w9_1, k_w9_2, k_w9_3, k_w9_4, k_w9_5, k_w9_6, k_w9_7, k_w9_8, k_w9_9, k_w9_10, k_w9_11, k_w9_12, k_w9_13, k_w9_14, k_w9_15, k_w9_16, k_w9_17, k_w9_18, k_w9_19, k_w9_20, k_w9_21, k_w9_22, k_w9_23⟩
theorem k_vm9 : start1.about.vm = k_s9.vm := rfl
theorem k_words9 : ∀ w ∈ (Jvm.Cond.code x code maxLocals ret :: tables_1), w.before start1.args0 k_s9 = true := by
  intro w hw
  cases hg : w.onTables with
  | true => rw [← k_onT (A := start1.args0) k_vm9 hg]; exact start1.words w hw
  | false =>
    rcases List.mem_cons.mp hw with h | h
    · rw [h] at hg; exact absurd hg (by decide)
    · exact List.all_eq_true.mp k_words8 w (List.mem_filter.mpr ⟨h, by unfold k_off; rw [hg]; rfl⟩)
set_option maxRecDepth 16384 in
theorem k_nar1 : narrow_1_1.before start1.args0 k_s9 = true := by decide +kernel
set_option maxRecDepth 16384 in
theorem k_nar2 : narrow_1_2.before start1.args0 k_s9 = true := by decide +kernel
set_option maxRecDepth 16384 in
theorem k_nar3 : narrow_1_3.before start1.args0 k_s9 = true := by decide +kernel
set_option maxRecDepth 16384 in
theorem k_nar4 : narrow_1_4.before start1.args0 k_s9 = true := by decide +kernel
set_option maxRecDepth 16384 in
theorem k_nar5 : narrow_1_5.before start1.args0 k_s9 = true := by decide +kernel
set_option maxRecDepth 16384 in
theorem k_nar6 : narrow_1_6.before start1.args0 k_s9 = true := by decide +kernel
set_option maxRecDepth 16384 in
theorem k_nar7 : narrow_1_7.before start1.args0 k_s9 = true := by decide +kernel
set_option maxRecDepth 16384 in
theorem k_nar8 : narrow_1_8.before start1.args0 k_s9 = true := by decide +kernel
theorem k_and9 {a b : Jvm.Cond} (h1 : a.before start1.args0 k_s9 = true) (h2 : b.before start1.args0 k_s9 = true) : (Jvm.Cond.and a b).before start1.args0 k_s9 = true := by rw [Cond.before_and, Bool.and_eq_true]; exact ⟨h1, h2⟩
theorem k_pre9 : (Jvm.Cond.and given_1 narrow_1).before start1.args0 k_s9 = true := by
  refine k_and9 (by decide +kernel) ?_
  unfold narrow_1
  exact (k_and9 (k_and9 (k_and9 k_nar1 k_nar2) (k_and9 k_nar3 k_nar4)) (k_and9 (k_and9 k_nar5 k_nar6) (k_and9 k_nar7 k_nar8)))
set_option maxRecDepth 16384 in
theorem k_rest9 : rest_1_c.before start1.args0 k_s9 = true := by decide +kernel
set_option maxRecDepth 16384 in
theorem k_room9 : k_s9.hasRoom k_e9.platform room_1 = true := by decide +kernel
set_option maxRecDepth 16384 in
theorem k_applies9 : (headSpec (Jvm.Cond.code x code maxLocals ret :: tables_1) room_1).applies x k_e9.platform k_s9 = true :=
  (Spec.applies_iff (below := k_below) (m := ⟨0, 0⟩) (args := start1.args0) rfl).mpr ⟨rfl, rfl, rfl, by decide +kernel, by decide +kernel, by decide +kernel, k_room9, atoms_intro k_words9⟩
theorem k_mem9 : Frame.java (F0 ⟨9999, 0⟩ 0 #[] []) ∈ k_s9.frames := by
  show Frame.java (F0 ⟨9999, 0⟩ 0 #[] []) ∈ Frame.invoking ⟨0, 0⟩ start1.args0 :: k_below
  exact List.mem_cons_of_mem _ (List.mem_cons_of_mem _ (List.mem_replicate.mpr ⟨by decide, rfl⟩))
set_option maxRecDepth 16384 in
theorem k_full9 : k_X k_e9 k_s9 2048 := by
  refine ⟨by decide +kernel, fun f hf => ?_, F0 ⟨9999, 0⟩ 0 #[] [], k_mem9, by decide +kernel⟩
  rcases List.mem_cons.mp (show f ∈ Frame.invoking ⟨0, 0⟩ start1.args0 :: k_below from hf) with h | h
  · rw [h]; rfl
  · rcases List.mem_cons.mp h with h | h
    · rw [h]; rfl
    · rw [(List.mem_replicate.mp h).2]; rfl
theorem k_flags9 : launch0.flags = flags0 := rfl
theorem k_hd {α : Type} (a : α) (l : List α) : (List.toArray (a :: l))[0]? = some a := by simp
theorem k_h0 (X : Array Value) : (start1.aboutOf X).heap[0]? = some ({ cls := 66, slots := X, vm := .none } : Cell) := k_hd _ _
theorem k_s9h : k_s9.heap = (start1.aboutOf (k_scr.map Value.int).toArray).heap := by unfold k_s9; rfl
theorem k_ints9 : k_s9.IntsAt 0 k_scr := by
  have hs := flat_of_before _ k_pre9
  have hq := flat_of_before _ k_rest9
  have harr : (Cond.arrayOf (.arg 0) .int).before start1.args0 k_s9 = true := hs _ (by decide +kernel)
  have hlen : (Cond.isInt (.length (.arg 0))).before start1.args0 k_s9 = true := hq _ (by decide +kernel)
  have hall : (Cond.all (.arg 0) (.isInt (.elem (.arg 0) (.index 0)))).before start1.args0 k_s9 = true := hq _ (by decide +kernel)
  obtain ⟨b, xs, hb, hx⟩ := State.ints_of_pre rfl harr hlen hall
  have hb0 : some (Value.ref 0) = some (Value.ref b) := hb
  cases hb0
  obtain ⟨cell, h1, h2, h3, h4⟩ := hx
  have hc : k_s9.heap[0]? = some cell := (State.arrayAt?_spec h1).1
  rw [k_s9h] at hc
  have e : ({ cls := 66, slots := (k_scr.map Value.int).toArray, vm := .none } : Cell) = cell := Option.some.inj ((k_h0 _).symm.trans hc)
  have e2 : k_scr.map Value.int = xs.map Value.int := by
    rw [← h2, ← e]
  have e3 : k_scr = xs := (List.map_inj_right (fun x y h => Value.int.inj h)).mp e2
  rw [e3]
  exact ⟨cell, h1, h2, h3, h4⟩
/-- the claim's first limb is false -/
theorem k_refuted : ¬ Claimed_1_1 := by
  intro hC
  have hl0 : launch0.stackTraces = false := by
    unfold Launch.stackTraces
    rw [k_flags9]
    decide +kernel
  obtain ⟨n, o, h1, h2, h3, -⟩ := hC launch0 k_flags9 lists_1 trivial start1.p0 k_e9 (launch0.admits_env _ _ _ _) fairChoices_fair.cas fairChoices_fair.clock k_s9 ⟨0, 0⟩ start1.args0 k_below rfl (by decide +kernel) (by decide +kernel) k_applies9 ⟨trivial, k_rest9, k_pre9⟩
  obtain ⟨t, hst, hq⟩ := k_law launch0 hl0 0 start1.p0 k_e9 (launch0.admits_env _ _ _ _) fairChoices_fair.cas fairChoices_fair.clock k_s9 ⟨0, 0⟩ start1.args0 k_below rfl ((Spec.applies_iff_loose rfl).mp k_applies9).1 ⟨rfl, k_ints9, k_pre9⟩ k_full9
  exact k_never hq hst h2 h3
end KV90_end
