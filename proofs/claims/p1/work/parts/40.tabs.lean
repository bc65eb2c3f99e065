/-! EVERY METHOD (printed by wip/ev/pf2.py). -/
theorem ev_t0 {l : Launch} {D : va_G} {A : Nat → Prop} {ex : Nat → Value} (hl0 : l.stackTraces = false) : ev_TabQ2 l D ev_cl A ex ev_ty (ev_XT A ex) ev_y ev_b ev_nL ev_ret ev_ws ev_cm ev_sm 0 ev_m0 := by
  refine Or.inr ⟨by decide +kernel, ⟨ev_W, Or.inl rfl⟩, fun d E hd6 hE p e R s m args below meth c Q ad0 hx hb hml hname hown hts hXs hA hR => ?_⟩
  subst hR
  have S : CallFix p m c cX12_init 2 s args ev_W RX12 := ⟨hx, hb, hml, hown, fun w hw => hts w (List.mem_cons_of_mem _ hw)⟩
  have K := fun (pc : Nat) (x : ev_I ⊕ Nat) => ev_code_at (P := fun pc f => ev_Sim p l e ({ frames := d + 1, cells := 357, slots := 18203, locals := 64 * (d + 1) } : Room) s m args below meth c Q 2 D ev_cl A s.heap ex ad0 ev_ty pc f) (K := fun pc k => ev_stop k cX12_init pc none) (t := [ev_r0_0 E, ev_r0_1 E, ev_r0_2 E, ev_r0_3 E, ev_r0_4 E, ev_r0_5 E, ev_r0_6 E, ev_r0_7 E, ev_r0_8 E]) ⟨ev_h0_0 hl0 hd6 hE hXs hA S hname, ⟨ev_h0_1 hl0 hd6 hE hXs hA S hname, ⟨ev_h0_2 hl0 hd6 hE hXs hA S hname, ⟨ev_h0_3 hl0 hd6 hE hXs hA S hname, ⟨ev_h0_4 hl0 hd6 hE hXs hA S hname, ⟨ev_h0_5 hl0 hd6 hE hXs hA S hname, ⟨ev_h0_6 hl0 hd6 hE hXs hA S hname, ⟨ev_h0_7 hl0 hd6 hE hXs hA S hname, ⟨ev_h0_8 hl0 hd6 hE hXs hA S hname, trivial⟩⟩⟩⟩⟩⟩⟩⟩⟩ (pc := pc) (x := x)
  exact ⟨fun pc f hf => K pc _ hf, fun pc k hk => K pc _ hk⟩
theorem ev_t1 {l : Launch} {D : va_G} {A : Nat → Prop} {ex : Nat → Value} (hl0 : l.stackTraces = false) : ev_TabQ2 l D ev_cl A ex ev_ty (ev_XT A ex) ev_y ev_b ev_nL ev_ret ev_ws ev_cm ev_sm 1 ev_m1 := by
  refine Or.inr ⟨by decide +kernel, ⟨ev_W, Or.inl rfl⟩, fun d E hd6 hE p e R s m args below meth c Q ad0 hx hb hml hname hown hts hXs hA hR => ?_⟩
  subst hR
  have S : CallFix p m c cX12_ask 4 s args ev_W RX12 := ⟨hx, hb, hml, hown, fun w hw => hts w (List.mem_cons_of_mem _ hw)⟩
  have K := fun (pc : Nat) (x : ev_I ⊕ Nat) => ev_code_at (P := fun pc f => ev_Sim p l e ({ frames := d + 1, cells := 2, slots := 66, locals := 64 * (d + 1) } : Room) s m args below meth c Q 4 D ev_cl A s.heap ex ad0 ev_ty pc f) (K := fun pc k => ev_stop k cX12_ask pc (some .int)) (t := [ev_r1_0 E, ev_r1_1 E, ev_r1_2 E, ev_r1_3 E, ev_r1_4 E, ev_r1_5 E, ev_r1_6 E]) ⟨ev_h1_0 hl0 hd6 hE hXs hA S hname, ⟨ev_h1_1 hl0 hd6 hE hXs hA S hname, ⟨ev_h1_2 hl0 hd6 hE hXs hA S hname, ⟨ev_h1_3 hl0 hd6 hE hXs hA S hname, ⟨ev_h1_4 hl0 hd6 hE hXs hA S hname, ⟨ev_h1_5 hl0 hd6 hE hXs hA S hname, ⟨ev_h1_6 hl0 hd6 hE hXs hA S hname, trivial⟩⟩⟩⟩⟩⟩⟩ (pc := pc) (x := x)
  exact ⟨fun pc f hf => K pc _ hf, fun pc k hk => K pc _ hk⟩
theorem ev_t2 {l : Launch} {D : va_G} {A : Nat → Prop} {ex : Nat → Value} (hl0 : l.stackTraces = false) : ev_TabQ2 l D ev_cl A ex ev_ty (ev_XT A ex) ev_y ev_b ev_nL ev_ret ev_ws ev_cm ev_sm 2 ev_m2 := by
  refine Or.inr ⟨by decide +kernel, ⟨ev_W, Or.inl rfl⟩, fun d E hd6 hE p e R s m args below meth c Q ad0 hx hb hml hname hown hts hXs hA hR => ?_⟩
  subst hR
  have S : CallFix p m c cX12_byteAt 3 s args ev_W RX12 := ⟨hx, hb, hml, hown, fun w hw => hts w (List.mem_cons_of_mem _ hw)⟩
  have K := fun (pc : Nat) (x : ev_I ⊕ Nat) => ev_code_at (P := fun pc f => ev_Sim p l e ({ frames := d + 1, cells := 0, slots := 0, locals := 64 * (d + 1) } : Room) s m args below meth c Q 3 D ev_cl A s.heap ex ad0 ev_ty pc f) (K := fun pc k => ev_stop k cX12_byteAt pc (some .int)) (t := [ev_r2_0 E, [], ev_r2_2 E, ev_r2_3 E, ev_r2_4 E, ev_r2_5 E]) ⟨ev_h2_0 hl0 hd6 hE hXs hA S hname, ⟨ev_pz, ⟨ev_h2_2 hl0 hd6 hE hXs hA S hname, ⟨ev_h2_3 hl0 hd6 hE hXs hA S hname, ⟨ev_h2_4 hl0 hd6 hE hXs hA S hname, ⟨ev_h2_5 hl0 hd6 hE hXs hA S hname, trivial⟩⟩⟩⟩⟩⟩ (pc := pc) (x := x)
  exact ⟨fun pc f hf => K pc _ hf, fun pc k hk => K pc _ hk⟩
theorem ev_t3 {l : Launch} {D : va_G} {A : Nat → Prop} {ex : Nat → Value} (hl0 : l.stackTraces = false) : ev_TabQ2 l D ev_cl A ex ev_ty (ev_XT A ex) ev_y ev_b ev_nL ev_ret ev_ws ev_cm ev_sm 3 ev_m3 := by
  refine Or.inr ⟨by decide +kernel, ⟨ev_W, Or.inl rfl⟩, fun d E hd6 hE p e R s m args below meth c Q ad0 hx hb hml hname hown hts hXs hA hR => ?_⟩
  subst hR
  have S : CallFix p m c cX12_clear 4 s args ev_W RX12 := ⟨hx, hb, hml, hown, fun w hw => hts w (List.mem_cons_of_mem _ hw)⟩
  have K := fun (pc : Nat) (x : ev_I ⊕ Nat) => ev_code_at (P := fun pc f => ev_Sim p l e ({ frames := d + 1, cells := 0, slots := 0, locals := 64 * (d + 1) } : Room) s m args below meth c Q 4 D ev_cl A s.heap ex ad0 ev_ty pc f) (K := fun pc k => ev_stop k cX12_clear pc (some .int)) (t := [ev_r3_0 E, ev_r3_1 E, ev_r3_2 E]) ⟨ev_h3_0 hl0 hd6 hE hXs hA S hname, ⟨ev_h3_1 hl0 hd6 hE hXs hA S hname, ⟨ev_h3_2 hl0 hd6 hE hXs hA S hname, trivial⟩⟩⟩ (pc := pc) (x := x)
  exact ⟨fun pc f hf => K pc _ hf, fun pc k hk => K pc _ hk⟩
theorem ev_t4 {l : Launch} {D : va_G} {A : Nat → Prop} {ex : Nat → Value} (hl0 : l.stackTraces = false) : ev_TabQ2 l D ev_cl A ex ev_ty (ev_XT A ex) ev_y ev_b ev_nL ev_ret ev_ws ev_cm ev_sm 4 ev_m4 := by
  refine Or.inr ⟨by decide +kernel, ⟨ev_W, Or.inl rfl⟩, fun d E hd6 hE p e R s m args below meth c Q ad0 hx hb hml hname hown hts hXs hA hR => ?_⟩
  subst hR
  have S : CallFix p m c cX12_count 2 s args ev_W RX12 := ⟨hx, hb, hml, hown, fun w hw => hts w (List.mem_cons_of_mem _ hw)⟩
  have K := fun (pc : Nat) (x : ev_I ⊕ Nat) => ev_code_at (P := fun pc f => ev_Sim p l e ({ frames := d + 1, cells := 0, slots := 0, locals := 64 * (d + 1) } : Room) s m args below meth c Q 2 D ev_cl A s.heap ex ad0 ev_ty pc f) (K := fun pc k => ev_stop k cX12_count pc (some .int)) (t := [ev_r4_0 E, [], [], [], [], ev_r4_5 E, ev_r4_6 E, ev_r4_7 E, ev_r4_8 E, ev_r4_9 E, ev_r4_10 E, ev_r4_11 E, ev_r4_12 E, ev_r4_13 E, ev_r4_14 E, ev_r4_15 E, ev_r4_16 E, ev_r4_17 E, ev_r4_18 E]) ⟨ev_h4_0 hl0 hd6 hE hXs hA S hname, ⟨ev_pz, ⟨ev_pz, ⟨ev_pz, ⟨ev_pz, ⟨ev_h4_5 hl0 hd6 hE hXs hA S hname, ⟨ev_h4_6 hl0 hd6 hE hXs hA S hname, ⟨ev_h4_7 hl0 hd6 hE hXs hA S hname, ⟨ev_h4_8 hl0 hd6 hE hXs hA S hname, ⟨ev_h4_9 hl0 hd6 hE hXs hA S hname, ⟨ev_h4_10 hl0 hd6 hE hXs hA S hname, ⟨ev_h4_11 hl0 hd6 hE hXs hA S hname, ⟨ev_h4_12 hl0 hd6 hE hXs hA S hname, ⟨ev_h4_13 hl0 hd6 hE hXs hA S hname, ⟨ev_h4_14 hl0 hd6 hE hXs hA S hname, ⟨ev_h4_15 hl0 hd6 hE hXs hA S hname, ⟨ev_h4_16 hl0 hd6 hE hXs hA S hname, ⟨ev_h4_17 hl0 hd6 hE hXs hA S hname, ⟨ev_h4_18 hl0 hd6 hE hXs hA S hname, trivial⟩⟩⟩⟩⟩⟩⟩⟩⟩⟩⟩⟩⟩⟩⟩⟩⟩⟩⟩ (pc := pc) (x := x)
  exact ⟨fun pc f hf => K pc _ hf, fun pc k hk => K pc _ hk⟩
theorem ev_t5 {l : Launch} {D : va_G} {A : Nat → Prop} {ex : Nat → Value} (hl0 : l.stackTraces = false) : ev_TabQ2 l D ev_cl A ex ev_ty (ev_XT A ex) ev_y ev_b ev_nL ev_ret ev_ws ev_cm ev_sm 5 ev_m5 := by
  refine Or.inr ⟨by decide +kernel, ⟨ev_W, Or.inl rfl⟩, fun d E hd6 hE p e R s m args below meth c Q ad0 hx hb hml hname hown hts hXs hA hR => ?_⟩
  subst hR
  have S : CallFix p m c cX12_feed 6 s args ev_W RX12 := ⟨hx, hb, hml, hown, fun w hw => hts w (List.mem_cons_of_mem _ hw)⟩
  have K := fun (pc : Nat) (x : ev_I ⊕ Nat) => ev_code_at (P := fun pc f => ev_Sim p l e ({ frames := d + 1, cells := 0, slots := 0, locals := 64 * (d + 1) } : Room) s m args below meth c Q 6 D ev_cl A s.heap ex ad0 ev_ty pc f) (K := fun pc k => ev_stop k cX12_feed pc (some .int)) (t := [ev_r5_0 E, ev_r5_1 E, ev_r5_2 E, ev_r5_3 E]) ⟨ev_h5_0 hl0 hd6 hE hXs hA S hname, ⟨ev_h5_1 hl0 hd6 hE hXs hA S hname, ⟨ev_h5_2 hl0 hd6 hE hXs hA S hname, ⟨ev_h5_3 hl0 hd6 hE hXs hA S hname, trivial⟩⟩⟩⟩ (pc := pc) (x := x)
  exact ⟨fun pc f hf => K pc _ hf, fun pc k hk => K pc _ hk⟩
theorem ev_t6 {l : Launch} {D : va_G} {A : Nat → Prop} {ex : Nat → Value} (hl0 : l.stackTraces = false) : ev_TabQ2 l D ev_cl A ex ev_ty (ev_XT A ex) ev_y ev_b ev_nL ev_ret ev_ws ev_cm ev_sm 6 ev_m6 := by
  refine Or.inr ⟨by decide +kernel, ⟨ev_W, Or.inl rfl⟩, fun d E hd6 hE p e R s m args below meth c Q ad0 hx hb hml hname hown hts hXs hA hR => ?_⟩
  subst hR
  have S : CallFix p m c cX12_feedFour 2 s args ev_W RX12 := ⟨hx, hb, hml, hown, fun w hw => hts w (List.mem_cons_of_mem _ hw)⟩
  have K := fun (pc : Nat) (x : ev_I ⊕ Nat) => ev_code_at (P := fun pc f => ev_Sim p l e ({ frames := d + 1, cells := 0, slots := 0, locals := 64 * (d + 1) } : Room) s m args below meth c Q 2 D ev_cl A s.heap ex ad0 ev_ty pc f) (K := fun pc k => ev_stop k cX12_feedFour pc none) (t := [ev_r6_0 E, ev_r6_1 E, ev_r6_2 E, ev_r6_3 E]) ⟨ev_h6_0 hl0 hd6 hE hXs hA S hname, ⟨ev_h6_1 hl0 hd6 hE hXs hA S hname, ⟨ev_h6_2 hl0 hd6 hE hXs hA S hname, ⟨ev_h6_3 hl0 hd6 hE hXs hA S hname, trivial⟩⟩⟩⟩ (pc := pc) (x := x)
  exact ⟨fun pc f hf => K pc _ hf, fun pc k hk => K pc _ hk⟩
theorem ev_t7 {l : Launch} {D : va_G} {A : Nat → Prop} {ex : Nat → Value} (hl0 : l.stackTraces = false) : ev_TabQ2 l D ev_cl A ex ev_ty (ev_XT A ex) ev_y ev_b ev_nL ev_ret ev_ws ev_cm ev_sm 7 ev_m7 := by
  refine Or.inr ⟨by decide +kernel, ⟨ev_W, Or.inl rfl⟩, fun d E hd6 hE p e R s m args below meth c Q ad0 hx hb hml hname hown hts hXs hA hR => ?_⟩
  subst hR
  have S : CallFix p m c cX12_holds 4 s args ev_W RX12 := ⟨hx, hb, hml, hown, fun w hw => hts w (List.mem_cons_of_mem _ hw)⟩
  have K := fun (pc : Nat) (x : ev_I ⊕ Nat) => ev_code_at (P := fun pc f => ev_Sim p l e ({ frames := d + 1, cells := 0, slots := 0, locals := 64 * (d + 1) } : Room) s m args below meth c Q 4 D ev_cl A s.heap ex ad0 ev_ty pc f) (K := fun pc k => ev_stop k cX12_holds pc (some .boolean)) (t := [ev_r7_0 E, ev_r7_1 E, ev_r7_2 E, [], ev_r7_4 E]) ⟨ev_h7_0 hl0 hd6 hE hXs hA S hname, ⟨ev_h7_1 hl0 hd6 hE hXs hA S hname, ⟨ev_h7_2 hl0 hd6 hE hXs hA S hname, ⟨ev_pz, ⟨ev_h7_4 hl0 hd6 hE hXs hA S hname, trivial⟩⟩⟩⟩⟩ (pc := pc) (x := x)
  exact ⟨fun pc f hf => K pc _ hf, fun pc k hk => K pc _ hk⟩
theorem ev_t8 {l : Launch} {D : va_G} {A : Nat → Prop} {ex : Nat → Value} (hl0 : l.stackTraces = false) : ev_TabQ2 l D ev_cl A ex ev_ty (ev_XT A ex) ev_y ev_b ev_nL ev_ret ev_ws ev_cm ev_sm 8 ev_m8 := by
  refine Or.inr ⟨by decide +kernel, ⟨ev_W, Or.inl rfl⟩, fun d E hd6 hE p e R s m args below meth c Q ad0 hx hb hml hname hown hts hXs hA hR => ?_⟩
  subst hR
  have S : CallFix p m c cX12_input 3 s args ev_W RX12 := ⟨hx, hb, hml, hown, fun w hw => hts w (List.mem_cons_of_mem _ hw)⟩
  have K := fun (pc : Nat) (x : ev_I ⊕ Nat) => ev_code_at (P := fun pc f => ev_Sim p l e ({ frames := d + 1, cells := 1, slots := 6, locals := 64 * (d + 1) } : Room) s m args below meth c Q 3 D ev_cl A s.heap ex ad0 ev_ty pc f) (K := fun pc k => ev_stop k cX12_input pc none) (t := [ev_r8_0 E, ev_r8_1 E, ev_r8_2 E, ev_r8_3 E]) ⟨ev_h8_0 hl0 hd6 hE hXs hA S hname, ⟨ev_h8_1 hl0 hd6 hE hXs hA S hname, ⟨ev_h8_2 hl0 hd6 hE hXs hA S hname, ⟨ev_h8_3 hl0 hd6 hE hXs hA S hname, trivial⟩⟩⟩⟩ (pc := pc) (x := x)
  exact ⟨fun pc f hf => K pc _ hf, fun pc k hk => K pc _ hk⟩
theorem ev_t9 {l : Launch} {D : va_G} {A : Nat → Prop} {ex : Nat → Value} (hl0 : l.stackTraces = false) : ev_TabQ2 l D ev_cl A ex ev_ty (ev_XT A ex) ev_y ev_b ev_nL ev_ret ev_ws ev_cm ev_sm 9 ev_m9 := by
  refine Or.inr ⟨by decide +kernel, ⟨ev_W, Or.inl rfl⟩, fun d E hd6 hE p e R s m args below meth c Q ad0 hx hb hml hname hown hts hXs hA hR => ?_⟩
  subst hR
  have S : CallFix p m c cX12_print 1 s args ev_W RX12 := ⟨hx, hb, hml, hown, fun w hw => hts w (List.mem_cons_of_mem _ hw)⟩
  have K := fun (pc : Nat) (x : ev_I ⊕ Nat) => ev_code_at (P := fun pc f => ev_Sim p l e ({ frames := d + 1, cells := 1, slots := 6, locals := 64 * (d + 1) } : Room) s m args below meth c Q 1 D ev_cl A s.heap ex ad0 ev_ty pc f) (K := fun pc k => ev_stop k cX12_print pc (some .int)) (t := [ev_r9_0 E, ev_r9_1 E]) ⟨ev_h9_0 hl0 hd6 hE hXs hA S hname, ⟨ev_h9_1 hl0 hd6 hE hXs hA S hname, trivial⟩⟩ (pc := pc) (x := x)
  exact ⟨fun pc f hf => K pc _ hf, fun pc k hk => K pc _ hk⟩
theorem ev_t10 {l : Launch} {D : va_G} {A : Nat → Prop} {ex : Nat → Value} (hl0 : l.stackTraces = false) : ev_TabQ2 l D ev_cl A ex ev_ty (ev_XT A ex) ev_y ev_b ev_nL ev_ret ev_ws ev_cm ev_sm 10 ev_m10 := by
  refine Or.inr ⟨by decide +kernel, ⟨ev_W, Or.inl rfl⟩, fun d E hd6 hE p e R s m args below meth c Q ad0 hx hb hml hname hown hts hXs hA hR => ?_⟩
  subst hR
  have S : CallFix p m c cX12_put 6 s args ev_W RX12 := ⟨hx, hb, hml, hown, fun w hw => hts w (List.mem_cons_of_mem _ hw)⟩
  have K := fun (pc : Nat) (x : ev_I ⊕ Nat) => ev_code_at (P := fun pc f => ev_Sim p l e ({ frames := d + 1, cells := 4, slots := 132, locals := 64 * (d + 1) } : Room) s m args below meth c Q 6 D ev_cl A s.heap ex ad0 ev_ty pc f) (K := fun pc k => ev_stop k cX12_put pc (some .boolean)) (t := [ev_r10_0 E, ev_r10_1 E, ev_r10_2 E, ev_r10_3 E, ev_r10_4 E, [], ev_r10_6 E, ev_r10_7 E]) ⟨ev_h10_0 hl0 hd6 hE hXs hA S hname, ⟨ev_h10_1 hl0 hd6 hE hXs hA S hname, ⟨ev_h10_2 hl0 hd6 hE hXs hA S hname, ⟨ev_h10_3 hl0 hd6 hE hXs hA S hname, ⟨ev_h10_4 hl0 hd6 hE hXs hA S hname, ⟨ev_pz, ⟨ev_h10_6 hl0 hd6 hE hXs hA S hname, ⟨ev_h10_7 hl0 hd6 hE hXs hA S hname, trivial⟩⟩⟩⟩⟩⟩⟩⟩ (pc := pc) (x := x)
  exact ⟨fun pc f hf => K pc _ hf, fun pc k hk => K pc _ hk⟩
theorem ev_t11 {l : Launch} {D : va_G} {A : Nat → Prop} {ex : Nat → Value} (hl0 : l.stackTraces = false) : ev_TabQ2 l D ev_cl A ex ev_ty (ev_XT A ex) ev_y ev_b ev_nL ev_ret ev_ws ev_cm ev_sm 11 ev_m11 := by
  refine Or.inr ⟨by decide +kernel, ⟨ev_W, Or.inl rfl⟩, fun d E hd6 hE p e R s m args below meth c Q ad0 hx hb hml hname hown hts hXs hA hR => ?_⟩
  subst hR
  have S : CallFix p m c cX12_putAlias 3 s args ev_W RX12 := ⟨hx, hb, hml, hown, fun w hw => hts w (List.mem_cons_of_mem _ hw)⟩
  have K := fun (pc : Nat) (x : ev_I ⊕ Nat) => ev_code_at (P := fun pc f => ev_Sim p l e ({ frames := d + 1, cells := 0, slots := 0, locals := 64 * (d + 1) } : Room) s m args below meth c Q 3 D ev_cl A s.heap ex ad0 ev_ty pc f) (K := fun pc k => ev_stop k cX12_putAlias pc (some .boolean)) (t := [ev_r11_0 E]) ⟨ev_h11_0 hl0 hd6 hE hXs hA S hname, trivial⟩ (pc := pc) (x := x)
  exact ⟨fun pc f hf => K pc _ hf, fun pc k hk => K pc _ hk⟩
theorem ev_t12 {l : Launch} {D : va_G} {A : Nat → Prop} {ex : Nat → Value} (hl0 : l.stackTraces = false) : ev_TabQ2 l D ev_cl A ex ev_ty (ev_XT A ex) ev_y ev_b ev_nL ev_ret ev_ws ev_cm ev_sm 12 ev_m12 := by
  refine Or.inr ⟨by decide +kernel, ⟨ev_W, Or.inl rfl⟩, fun d E hd6 hE p e R s m args below meth c Q ad0 hx hb hml hname hown hts hXs hA hR => ?_⟩
  subst hR
  have S : CallFix p m c cX12_read 3 s args ev_W RX12 := ⟨hx, hb, hml, hown, fun w hw => hts w (List.mem_cons_of_mem _ hw)⟩
  have K := fun (pc : Nat) (x : ev_I ⊕ Nat) => ev_code_at (P := fun pc f => ev_Sim p l e ({ frames := d + 1, cells := 8, slots := 190, locals := 64 * (d + 1) } : Room) s m args below meth c Q 3 D ev_cl A s.heap ex ad0 ev_ty pc f) (K := fun pc k => ev_stop k cX12_read pc (some .int)) (t := [ev_r12_0 E, ev_r12_1 E, ev_r12_2 E, ev_r12_3 E, ev_r12_4 E, ev_r12_5 E, ev_r12_6 E]) ⟨ev_h12_0 hl0 hd6 hE hXs hA S hname, ⟨ev_h12_1 hl0 hd6 hE hXs hA S hname, ⟨ev_h12_2 hl0 hd6 hE hXs hA S hname, ⟨ev_h12_3 hl0 hd6 hE hXs hA S hname, ⟨ev_h12_4 hl0 hd6 hE hXs hA S hname, ⟨ev_h12_5 hl0 hd6 hE hXs hA S hname, ⟨ev_h12_6 hl0 hd6 hE hXs hA S hname, trivial⟩⟩⟩⟩⟩⟩⟩ (pc := pc) (x := x)
  exact ⟨fun pc f hf => K pc _ hf, fun pc k hk => K pc _ hk⟩
theorem ev_t13 {l : Launch} {D : va_G} {A : Nat → Prop} {ex : Nat → Value} (hl0 : l.stackTraces = false) : ev_TabQ2 l D ev_cl A ex ev_ty (ev_XT A ex) ev_y ev_b ev_nL ev_ret ev_ws ev_cm ev_sm 13 ev_m13 := by
  refine Or.inr ⟨by decide +kernel, ⟨ev_W, Or.inl rfl⟩, fun d E hd6 hE p e R s m args below meth c Q ad0 hx hb hml hname hown hts hXs hA hR => ?_⟩
  subst hR
  have S : CallFix p m c cX12_reset 1 s args ev_W RX12 := ⟨hx, hb, hml, hown, fun w hw => hts w (List.mem_cons_of_mem _ hw)⟩
  have K := fun (pc : Nat) (x : ev_I ⊕ Nat) => ev_code_at (P := fun pc f => ev_Sim p l e ({ frames := d + 1, cells := 0, slots := 0, locals := 64 * (d + 1) } : Room) s m args below meth c Q 1 D ev_cl A s.heap ex ad0 ev_ty pc f) (K := fun pc k => ev_stop k cX12_reset pc none) (t := [ev_r13_0 E, ev_r13_1 E, ev_r13_2 E, ev_r13_3 E, ev_r13_4 E]) ⟨ev_h13_0 hl0 hd6 hE hXs hA S hname, ⟨ev_h13_1 hl0 hd6 hE hXs hA S hname, ⟨ev_h13_2 hl0 hd6 hE hXs hA S hname, ⟨ev_h13_3 hl0 hd6 hE hXs hA S hname, ⟨ev_h13_4 hl0 hd6 hE hXs hA S hname, trivial⟩⟩⟩⟩⟩ (pc := pc) (x := x)
  exact ⟨fun pc f hf => K pc _ hf, fun pc k hk => K pc _ hk⟩
theorem ev_t14 {l : Launch} {D : va_G} {A : Nat → Prop} {ex : Nat → Value} (hl0 : l.stackTraces = false) : ev_TabQ2 l D ev_cl A ex ev_ty (ev_XT A ex) ev_y ev_b ev_nL ev_ret ev_ws ev_cm ev_sm 14 ev_m14 := by
  refine Or.inr ⟨by decide +kernel, ⟨ev_W, Or.inl rfl⟩, fun d E hd6 hE p e R s m args below meth c Q ad0 hx hb hml hname hown hts hXs hA hR => ?_⟩
  subst hR
  have S : CallFix p m c cX12_run 2 s args ev_W RX12 := ⟨hx, hb, hml, hown, fun w hw => hts w (List.mem_cons_of_mem _ hw)⟩
  have K := fun (pc : Nat) (x : ev_I ⊕ Nat) => ev_code_at (P := fun pc f => ev_Sim p l e ({ frames := d + 1, cells := 1, slots := 6, locals := 64 * (d + 1) } : Room) s m args below meth c Q 2 D ev_cl A s.heap ex ad0 ev_ty pc f) (K := fun pc k => ev_stop k cX12_run pc (some .int)) (t := [ev_r14_0 E, ev_r14_1 E]) ⟨ev_h14_0 hl0 hd6 hE hXs hA S hname, ⟨ev_h14_1 hl0 hd6 hE hXs hA S hname, trivial⟩⟩ (pc := pc) (x := x)
  exact ⟨fun pc f hf => K pc _ hf, fun pc k hk => K pc _ hk⟩
theorem ev_t15 {l : Launch} {D : va_G} {A : Nat → Prop} {ex : Nat → Value} (hl0 : l.stackTraces = false) : ev_TabQ2 l D ev_cl A ex ev_ty (ev_XT A ex) ev_y ev_b ev_nL ev_ret ev_ws ev_cm ev_sm 15 ev_m15 := by
  refine Or.inr ⟨by decide +kernel, ⟨ev_W, Or.inl rfl⟩, fun d E hd6 hE p e R s m args below meth c Q ad0 hx hb hml hname hown hts hXs hA hR => ?_⟩
  subst hR
  have S : CallFix p m c cX12_tellFile 5 s args ev_W RX12 := ⟨hx, hb, hml, hown, fun w hw => hts w (List.mem_cons_of_mem _ hw)⟩
  have K := fun (pc : Nat) (x : ev_I ⊕ Nat) => ev_code_at (P := fun pc f => ev_Sim p l e ({ frames := d + 1, cells := 0, slots := 0, locals := 64 * (d + 1) } : Room) s m args below meth c Q 5 D ev_cl A s.heap ex ad0 ev_ty pc f) (K := fun pc k => ev_stop k cX12_tellFile pc (some .boolean)) (t := [ev_r15_0 E, ev_r15_1 E, ev_r15_2 E, ev_r15_3 E]) ⟨ev_h15_0 hl0 hd6 hE hXs hA S hname, ⟨ev_h15_1 hl0 hd6 hE hXs hA S hname, ⟨ev_h15_2 hl0 hd6 hE hXs hA S hname, ⟨ev_h15_3 hl0 hd6 hE hXs hA S hname, trivial⟩⟩⟩⟩ (pc := pc) (x := x)
  exact ⟨fun pc f hf => K pc _ hf, fun pc k hk => K pc _ hk⟩
theorem ev_t16 {l : Launch} {D : va_G} {A : Nat → Prop} {ex : Nat → Value} (hl0 : l.stackTraces = false) : ev_TabQ2 l D ev_cl A ex ev_ty (ev_XT A ex) ev_y ev_b ev_nL ev_ret ev_ws ev_cm ev_sm 16 ev_m16 := by
  refine Or.inr ⟨by decide +kernel, ⟨ev_W, Or.inl rfl⟩, fun d E hd6 hE p e R s m args below meth c Q ad0 hx hb hml hname hown hts hXs hA hR => ?_⟩
  subst hR
  have S : CallFix p m c cX12_tellName 5 s args ev_W RX12 := ⟨hx, hb, hml, hown, fun w hw => hts w (List.mem_cons_of_mem _ hw)⟩
  have K := fun (pc : Nat) (x : ev_I ⊕ Nat) => ev_code_at (P := fun pc f => ev_Sim p l e ({ frames := d + 1, cells := 0, slots := 0, locals := 64 * (d + 1) } : Room) s m args below meth c Q 5 D ev_cl A s.heap ex ad0 ev_ty pc f) (K := fun pc k => ev_stop k cX12_tellName pc (some .boolean)) (t := [ev_r16_0 E]) ⟨ev_h16_0 hl0 hd6 hE hXs hA S hname, trivial⟩ (pc := pc) (x := x)
  exact ⟨fun pc f hf => K pc _ hf, fun pc k hk => K pc _ hk⟩
theorem ev_t17 {l : Launch} {D : va_G} {A : Nat → Prop} {ex : Nat → Value} (hl0 : l.stackTraces = false) : ev_TabQ2 l D ev_cl A ex ev_ty (ev_XT A ex) ev_y ev_b ev_nL ev_ret ev_ws ev_cm ev_sm 17 ev_m17 := by
  refine Or.inr ⟨by decide +kernel, ⟨ev_W, Or.inl rfl⟩, fun d E hd6 hE p e R s m args below meth c Q ad0 hx hb hml hname hown hts hXs hA hR => ?_⟩
  subst hR
  have S : CallFix p m c cX0_init 4 s args ev_W RX0 := ⟨hx, hb, hml, hown, fun w hw => hts w (List.mem_cons_of_mem _ hw)⟩
  have K := fun (pc : Nat) (x : ev_I ⊕ Nat) => ev_code_at (P := fun pc f => ev_Sim p l e ({ frames := d + 1, cells := 15, slots := 7183, locals := 64 * (d + 1) } : Room) s m args below meth c Q 4 D ev_cl A s.heap ex ad0 ev_ty pc f) (K := fun pc k => ev_stop k cX0_init pc none) (t := [ev_r17_0 E, ev_r17_1 E, ev_r17_2 E, ev_r17_3 E, ev_r17_4 E, ev_r17_5 E, ev_r17_6 E, ev_r17_7 E, ev_r17_8 E]) ⟨ev_h17_0 hl0 hd6 hE hXs hA S hname, ⟨ev_h17_1 hl0 hd6 hE hXs hA S hname, ⟨ev_h17_2 hl0 hd6 hE hXs hA S hname, ⟨ev_h17_3 hl0 hd6 hE hXs hA S hname, ⟨ev_h17_4 hl0 hd6 hE hXs hA S hname, ⟨ev_h17_5 hl0 hd6 hE hXs hA S hname, ⟨ev_h17_6 hl0 hd6 hE hXs hA S hname, ⟨ev_h17_7 hl0 hd6 hE hXs hA S hname, ⟨ev_h17_8 hl0 hd6 hE hXs hA S hname, trivial⟩⟩⟩⟩⟩⟩⟩⟩⟩ (pc := pc) (x := x)
  exact ⟨fun pc f hf => K pc _ hf, fun pc k hk => K pc _ hk⟩
theorem ev_t18 {l : Launch} {D : va_G} {A : Nat → Prop} {ex : Nat → Value} (hl0 : l.stackTraces = false) : ev_TabQ2 l D ev_cl A ex ev_ty (ev_XT A ex) ev_y ev_b ev_nL ev_ret ev_ws ev_cm ev_sm 18 ev_m18 := by
  refine Or.inr ⟨by decide +kernel, ⟨ev_W, Or.inl rfl⟩, fun d E hd6 hE p e R s m args below meth c Q ad0 hx hb hml hname hown hts hXs hA hR => ?_⟩
  subst hR
  have S : CallFix p m c cX1_init 1 s args ev_W RX1 := ⟨hx, hb, hml, hown, fun w hw => hts w (List.mem_cons_of_mem _ hw)⟩
  have K := fun (pc : Nat) (x : ev_I ⊕ Nat) => ev_code_at (P := fun pc f => ev_Sim p l e ({ frames := d + 1, cells := 0, slots := 0, locals := 64 * (d + 1) } : Room) s m args below meth c Q 1 D ev_cl A s.heap ex ad0 ev_ty pc f) (K := fun pc k => ev_stop k cX1_init pc none) (t := [ev_r18_0 E]) ⟨ev_h18_0 hl0 hd6 hE hXs hA S hname, trivial⟩ (pc := pc) (x := x)
  exact ⟨fun pc f hf => K pc _ hf, fun pc k hk => K pc _ hk⟩
theorem ev_t19 {l : Launch} {D : va_G} {A : Nat → Prop} {ex : Nat → Value} (hl0 : l.stackTraces = false) : ev_TabQ2 l D ev_cl A ex ev_ty (ev_XT A ex) ev_y ev_b ev_nL ev_ret ev_ws ev_cm ev_sm 19 ev_m19 := by
  refine Or.inr ⟨by decide +kernel, ⟨ev_W, Or.inl rfl⟩, fun d E hd6 hE p e R s m args below meth c Q ad0 hx hb hml hname hown hts hXs hA hR => ?_⟩
  subst hR
  have S : CallFix p m c cX1_has 2 s args ev_W RX1 := ⟨hx, hb, hml, hown, fun w hw => hts w (List.mem_cons_of_mem _ hw)⟩
  have K := fun (pc : Nat) (x : ev_I ⊕ Nat) => ev_code_at (P := fun pc f => ev_Sim p l e ({ frames := d + 1, cells := 0, slots := 0, locals := 64 * (d + 1) } : Room) s m args below meth c Q 2 D ev_cl A s.heap ex ad0 ev_ty pc f) (K := fun pc k => ev_stop k cX1_has pc (some .boolean)) (t := [ev_r19_0 E]) ⟨ev_h19_0 hl0 hd6 hE hXs hA S hname, trivial⟩ (pc := pc) (x := x)
  exact ⟨fun pc f hf => K pc _ hf, fun pc k hk => K pc _ hk⟩
theorem ev_t20 {l : Launch} {D : va_G} {A : Nat → Prop} {ex : Nat → Value} (hl0 : l.stackTraces = false) : ev_TabQ2 l D ev_cl A ex ev_ty (ev_XT A ex) ev_y ev_b ev_nL ev_ret ev_ws ev_cm ev_sm 20 ev_m20 := by
  refine Or.inr ⟨by decide +kernel, ⟨ev_W, Or.inl rfl⟩, fun d E hd6 hE p e R s m args below meth c Q ad0 hx hb hml hname hown hts hXs hA hR => ?_⟩
  subst hR
  have S : CallFix p m c cX1_set 4 s args ev_W RX1 := ⟨hx, hb, hml, hown, fun w hw => hts w (List.mem_cons_of_mem _ hw)⟩
  have K := fun (pc : Nat) (x : ev_I ⊕ Nat) => ev_code_at (P := fun pc f => ev_Sim p l e ({ frames := d + 1, cells := 0, slots := 0, locals := 64 * (d + 1) } : Room) s m args below meth c Q 4 D ev_cl A s.heap ex ad0 ev_ty pc f) (K := fun pc k => ev_stop k cX1_set pc none) (t := [ev_r20_0 E, ev_r20_1 E, ev_r20_2 E, ev_r20_3 E, ev_r20_4 E, ev_r20_5 E]) ⟨ev_h20_0 hl0 hd6 hE hXs hA S hname, ⟨ev_h20_1 hl0 hd6 hE hXs hA S hname, ⟨ev_h20_2 hl0 hd6 hE hXs hA S hname, ⟨ev_h20_3 hl0 hd6 hE hXs hA S hname, ⟨ev_h20_4 hl0 hd6 hE hXs hA S hname, ⟨ev_h20_5 hl0 hd6 hE hXs hA S hname, trivial⟩⟩⟩⟩⟩⟩ (pc := pc) (x := x)
  exact ⟨fun pc f hf => K pc _ hf, fun pc k hk => K pc _ hk⟩
theorem ev_t21 {l : Launch} {D : va_G} {A : Nat → Prop} {ex : Nat → Value} (hl0 : l.stackTraces = false) : ev_TabQ2 l D ev_cl A ex ev_ty (ev_XT A ex) ev_y ev_b ev_nL ev_ret ev_ws ev_cm ev_sm 21 ev_m21 := by
  refine Or.inr ⟨by decide +kernel, ⟨ev_W, Or.inl rfl⟩, fun d E hd6 hE p e R s m args below meth c Q ad0 hx hb hml hname hown hts hXs hA hR => ?_⟩
  subst hR
  have S : CallFix p m c cX2_init 1 s args ev_W RX2 := ⟨hx, hb, hml, hown, fun w hw => hts w (List.mem_cons_of_mem _ hw)⟩
  have K := fun (pc : Nat) (x : ev_I ⊕ Nat) => ev_code_at (P := fun pc f => ev_Sim p l e ({ frames := d + 1, cells := 296, slots := 9230, locals := 64 * (d + 1) } : Room) s m args below meth c Q 1 D ev_cl A s.heap ex ad0 ev_ty pc f) (K := fun pc k => ev_stop k cX2_init pc none) (t := [ev_r21_0 E, ev_r21_1 E, ev_r21_2 E, ev_r21_3 E, ev_r21_4 E, ev_r21_5 E, ev_r21_6 E, ev_r21_7 E, ev_r21_8 E]) ⟨ev_h21_0 hl0 hd6 hE hXs hA S hname, ⟨ev_h21_1 hl0 hd6 hE hXs hA S hname, ⟨ev_h21_2 hl0 hd6 hE hXs hA S hname, ⟨ev_h21_3 hl0 hd6 hE hXs hA S hname, ⟨ev_h21_4 hl0 hd6 hE hXs hA S hname, ⟨ev_h21_5 hl0 hd6 hE hXs hA S hname, ⟨ev_h21_6 hl0 hd6 hE hXs hA S hname, ⟨ev_h21_7 hl0 hd6 hE hXs hA S hname, ⟨ev_h21_8 hl0 hd6 hE hXs hA S hname, trivial⟩⟩⟩⟩⟩⟩⟩⟩⟩ (pc := pc) (x := x)
  exact ⟨fun pc f hf => K pc _ hf, fun pc k hk => K pc _ hk⟩
theorem ev_t22 {l : Launch} {D : va_G} {A : Nat → Prop} {ex : Nat → Value} (hl0 : l.stackTraces = false) : ev_TabQ2 l D ev_cl A ex ev_ty (ev_XT A ex) ev_y ev_b ev_nL ev_ret ev_ws ev_cm ev_sm 22 ev_m22 := by
  refine Or.inr ⟨by decide +kernel, ⟨ev_W, Or.inl rfl⟩, fun d E hd6 hE p e R s m args below meth c Q ad0 hx hb hml hname hown hts hXs hA hR => ?_⟩
  subst hR
  have S : CallFix p m c cX2_command 3 s args ev_W RX2 := ⟨hx, hb, hml, hown, fun w hw => hts w (List.mem_cons_of_mem _ hw)⟩
  have K := fun (pc : Nat) (x : ev_I ⊕ Nat) => ev_code_at (P := fun pc f => ev_Sim p l e ({ frames := d + 1, cells := 5, slots := 142, locals := 64 * (d + 1) } : Room) s m args below meth c Q 3 D ev_cl A s.heap ex ad0 ev_ty pc f) (K := fun pc k => ev_stop k cX2_command pc none) (t := [ev_r22_0 E]) ⟨ev_h22_0 hl0 hd6 hE hXs hA S hname, trivial⟩ (pc := pc) (x := x)
  exact ⟨fun pc f hf => K pc _ hf, fun pc k hk => K pc _ hk⟩
theorem ev_t23 {l : Launch} {D : va_G} {A : Nat → Prop} {ex : Nat → Value} (hl0 : l.stackTraces = false) : ev_TabQ2 l D ev_cl A ex ev_ty (ev_XT A ex) ev_y ev_b ev_nL ev_ret ev_ws ev_cm ev_sm 23 ev_m23 := by
  refine Or.inr ⟨by decide +kernel, ⟨ev_W, Or.inl rfl⟩, fun d E hd6 hE p e R s m args below meth c Q ad0 hx hb hml hname hown hts hXs hA hR => ?_⟩
  subst hR
  have S : CallFix p m c cX2_find 4 s args ev_W RX2 := ⟨hx, hb, hml, hown, fun w hw => hts w (List.mem_cons_of_mem _ hw)⟩
  have K := fun (pc : Nat) (x : ev_I ⊕ Nat) => ev_code_at (P := fun pc f => ev_Sim p l e ({ frames := d + 1, cells := 0, slots := 0, locals := 64 * (d + 1) } : Room) s m args below meth c Q 4 D ev_cl A s.heap ex ad0 ev_ty pc f) (K := fun pc k => ev_stop k cX2_find pc (some (.object "TextShell$Name"))) (t := [ev_r23_0 E, ev_r23_1 E, ev_r23_2 E, ev_r23_3 E, ev_r23_4 E, ev_r23_5 E]) ⟨ev_h23_0 hl0 hd6 hE hXs hA S hname, ⟨ev_h23_1 hl0 hd6 hE hXs hA S hname, ⟨ev_h23_2 hl0 hd6 hE hXs hA S hname, ⟨ev_h23_3 hl0 hd6 hE hXs hA S hname, ⟨ev_h23_4 hl0 hd6 hE hXs hA S hname, ⟨ev_h23_5 hl0 hd6 hE hXs hA S hname, trivial⟩⟩⟩⟩⟩⟩ (pc := pc) (x := x)
  exact ⟨fun pc f hf => K pc _ hf, fun pc k hk => K pc _ hk⟩
theorem ev_t24 {l : Launch} {D : va_G} {A : Nat → Prop} {ex : Nat → Value} (hl0 : l.stackTraces = false) : ev_TabQ2 l D ev_cl A ex ev_ty (ev_XT A ex) ev_y ev_b ev_nL ev_ret ev_ws ev_cm ev_sm 24 ev_m24 := by
  refine Or.inr ⟨by decide +kernel, ⟨ev_W, Or.inl rfl⟩, fun d E hd6 hE p e R s m args below meth c Q ad0 hx hb hml hname hown hts hXs hA hR => ?_⟩
  subst hR
  have S : CallFix p m c cX2_forget 2 s args ev_W RX2 := ⟨hx, hb, hml, hown, fun w hw => hts w (List.mem_cons_of_mem _ hw)⟩
  have K := fun (pc : Nat) (x : ev_I ⊕ Nat) => ev_code_at (P := fun pc f => ev_Sim p l e ({ frames := d + 1, cells := 0, slots := 0, locals := 64 * (d + 1) } : Room) s m args below meth c Q 2 D ev_cl A s.heap ex ad0 ev_ty pc f) (K := fun pc k => ev_stop k cX2_forget pc none) (t := [ev_r24_0 E, ev_r24_1 E, ev_r24_2 E, ev_r24_3 E, ev_r24_4 E, ev_r24_5 E]) ⟨ev_h24_0 hl0 hd6 hE hXs hA S hname, ⟨ev_h24_1 hl0 hd6 hE hXs hA S hname, ⟨ev_h24_2 hl0 hd6 hE hXs hA S hname, ⟨ev_h24_3 hl0 hd6 hE hXs hA S hname, ⟨ev_h24_4 hl0 hd6 hE hXs hA S hname, ⟨ev_h24_5 hl0 hd6 hE hXs hA S hname, trivial⟩⟩⟩⟩⟩⟩ (pc := pc) (x := x)
  exact ⟨fun pc f hf => K pc _ hf, fun pc k hk => K pc _ hk⟩
theorem ev_t25 {l : Launch} {D : va_G} {A : Nat → Prop} {ex : Nat → Value} (hl0 : l.stackTraces = false) : ev_TabQ2 l D ev_cl A ex ev_ty (ev_XT A ex) ev_y ev_b ev_nL ev_ret ev_ws ev_cm ev_sm 25 ev_m25 := by
  refine Or.inr ⟨by decide +kernel, ⟨ev_W, Or.inl rfl⟩, fun d E hd6 hE p e R s m args below meth c Q ad0 hx hb hml hname hown hts hXs hA hR => ?_⟩
  subst hR
  have S : CallFix p m c cX2_howMany 6 s args ev_W RX2 := ⟨hx, hb, hml, hown, fun w hw => hts w (List.mem_cons_of_mem _ hw)⟩
  have K := fun (pc : Nat) (x : ev_I ⊕ Nat) => ev_code_at (P := fun pc f => ev_Sim p l e ({ frames := d + 1, cells := 0, slots := 0, locals := 64 * (d + 1) } : Room) s m args below meth c Q 6 D ev_cl A s.heap ex ad0 ev_ty pc f) (K := fun pc k => ev_stop k cX2_howMany pc (some .int)) (t := [ev_r25_0 E, ev_r25_1 E, ev_r25_2 E, ev_r25_3 E, ev_r25_4 E, ev_r25_5 E, ev_r25_6 E, ev_r25_7 E]) ⟨ev_h25_0 hl0 hd6 hE hXs hA S hname, ⟨ev_h25_1 hl0 hd6 hE hXs hA S hname, ⟨ev_h25_2 hl0 hd6 hE hXs hA S hname, ⟨ev_h25_3 hl0 hd6 hE hXs hA S hname, ⟨ev_h25_4 hl0 hd6 hE hXs hA S hname, ⟨ev_h25_5 hl0 hd6 hE hXs hA S hname, ⟨ev_h25_6 hl0 hd6 hE hXs hA S hname, ⟨ev_h25_7 hl0 hd6 hE hXs hA S hname, trivial⟩⟩⟩⟩⟩⟩⟩⟩ (pc := pc) (x := x)
  exact ⟨fun pc f hf => K pc _ hf, fun pc k hk => K pc _ hk⟩
theorem ev_t26 {l : Launch} {D : va_G} {A : Nat → Prop} {ex : Nat → Value} (hl0 : l.stackTraces = false) : ev_TabQ2 l D ev_cl A ex ev_ty (ev_XT A ex) ev_y ev_b ev_nL ev_ret ev_ws ev_cm ev_sm 26 ev_m26 := by
  refine Or.inr ⟨by decide +kernel, ⟨ev_W, Or.inl rfl⟩, fun d E hd6 hE p e R s m args below meth c Q ad0 hx hb hml hname hown hts hXs hA hR => ?_⟩
  subst hR
  have S : CallFix p m c cX2_name 5 s args ev_W RX2 := ⟨hx, hb, hml, hown, fun w hw => hts w (List.mem_cons_of_mem _ hw)⟩
  have K := fun (pc : Nat) (x : ev_I ⊕ Nat) => ev_code_at (P := fun pc f => ev_Sim p l e ({ frames := d + 1, cells := 3, slots := 76, locals := 64 * (d + 1) } : Room) s m args below meth c Q 5 D ev_cl A s.heap ex ad0 ev_ty pc f) (K := fun pc k => ev_stop k cX2_name pc (some (.object "TextShell$Name"))) (t := [ev_r26_0 E, ev_r26_1 E, [], [], ev_r26_4 E, ev_r26_5 E, ev_r26_6 E, ev_r26_7 E, ev_r26_8 E]) ⟨ev_h26_0 hl0 hd6 hE hXs hA S hname, ⟨ev_h26_1 hl0 hd6 hE hXs hA S hname, ⟨ev_pz, ⟨ev_pz, ⟨ev_h26_4 hl0 hd6 hE hXs hA S hname, ⟨ev_h26_5 hl0 hd6 hE hXs hA S hname, ⟨ev_h26_6 hl0 hd6 hE hXs hA S hname, ⟨ev_h26_7 hl0 hd6 hE hXs hA S hname, ⟨ev_h26_8 hl0 hd6 hE hXs hA S hname, trivial⟩⟩⟩⟩⟩⟩⟩⟩⟩ (pc := pc) (x := x)
  exact ⟨fun pc f hf => K pc _ hf, fun pc k hk => K pc _ hk⟩
theorem ev_t27 {l : Launch} {D : va_G} {A : Nat → Prop} {ex : Nat → Value} (hl0 : l.stackTraces = false) : ev_TabQ2 l D ev_cl A ex ev_ty (ev_XT A ex) ev_y ev_b ev_nL ev_ret ev_ws ev_cm ev_sm 27 ev_m27 := by
  refine Or.inr ⟨by decide +kernel, ⟨ev_W, Or.inl rfl⟩, fun d E hd6 hE p e R s m args below meth c Q ad0 hx hb hml hname hown hts hXs hA hR => ?_⟩
  subst hR
  have S : CallFix p m c cX2_reserve 3 s args ev_W RX2 := ⟨hx, hb, hml, hown, fun w hw => hts w (List.mem_cons_of_mem _ hw)⟩
  have K := fun (pc : Nat) (x : ev_I ⊕ Nat) => ev_code_at (P := fun pc f => ev_Sim p l e ({ frames := d + 1, cells := 5, slots := 142, locals := 64 * (d + 1) } : Room) s m args below meth c Q 3 D ev_cl A s.heap ex ad0 ev_ty pc f) (K := fun pc k => ev_stop k cX2_reserve pc none) (t := [ev_r27_0 E]) ⟨ev_h27_0 hl0 hd6 hE hXs hA S hname, trivial⟩ (pc := pc) (x := x)
  exact ⟨fun pc f hf => K pc _ hf, fun pc k hk => K pc _ hk⟩
theorem ev_t28 {l : Launch} {D : va_G} {A : Nat → Prop} {ex : Nat → Value} (hl0 : l.stackTraces = false) : ev_TabQ2 l D ev_cl A ex ev_ty (ev_XT A ex) ev_y ev_b ev_nL ev_ret ev_ws ev_cm ev_sm 28 ev_m28 := by
  refine Or.inr ⟨by decide +kernel, ⟨ev_W, Or.inl rfl⟩, fun d E hd6 hE p e R s m args below meth c Q ad0 hx hb hml hname hown hts hXs hA hR => ?_⟩
  subst hR
  have S : CallFix p m c cX2_row 2 s args ev_W RX2 := ⟨hx, hb, hml, hown, fun w hw => hts w (List.mem_cons_of_mem _ hw)⟩
  have K := fun (pc : Nat) (x : ev_I ⊕ Nat) => ev_code_at (P := fun pc f => ev_Sim p l e ({ frames := d + 1, cells := 2, slots := 66, locals := 64 * (d + 1) } : Room) s m args below meth c Q 2 D ev_cl A s.heap ex ad0 ev_ty pc f) (K := fun pc k => ev_stop k cX2_row pc (some (.object "TextShell$Row"))) (t := [ev_r28_0 E, ev_r28_1 E]) ⟨ev_h28_0 hl0 hd6 hE hXs hA S hname, ⟨ev_h28_1 hl0 hd6 hE hXs hA S hname, trivial⟩⟩ (pc := pc) (x := x)
  exact ⟨fun pc f hf => K pc _ hf, fun pc k hk => K pc _ hk⟩
theorem ev_t29 {l : Launch} {D : va_G} {A : Nat → Prop} {ex : Nat → Value} (hl0 : l.stackTraces = false) : ev_TabQ2 l D ev_cl A ex ev_ty (ev_XT A ex) ev_y ev_b ev_nL ev_ret ev_ws ev_cm ev_sm 29 ev_m29 := by
  refine Or.inr ⟨by decide +kernel, ⟨ev_W, Or.inl rfl⟩, fun d E hd6 hE p e R s m args below meth c Q ad0 hx hb hml hname hown hts hXs hA hR => ?_⟩
  subst hR
  have S : CallFix p m c cX2_tellCommands 1 s args ev_W RX2 := ⟨hx, hb, hml, hown, fun w hw => hts w (List.mem_cons_of_mem _ hw)⟩
  have K := fun (pc : Nat) (x : ev_I ⊕ Nat) => ev_code_at (P := fun pc f => ev_Sim p l e ({ frames := d + 1, cells := 195, slots := 5538, locals := 64 * (d + 1) } : Room) s m args below meth c Q 1 D ev_cl A s.heap ex ad0 ev_ty pc f) (K := fun pc k => ev_stop k cX2_tellCommands pc none) (t := [ev_r29_0 E, ev_r29_1 E, ev_r29_2 E, ev_r29_3 E, ev_r29_4 E, ev_r29_5 E, ev_r29_6 E, ev_r29_7 E, ev_r29_8 E, ev_r29_9 E, ev_r29_10 E, ev_r29_11 E, ev_r29_12 E, ev_r29_13 E, ev_r29_14 E, ev_r29_15 E, ev_r29_16 E, ev_r29_17 E, ev_r29_18 E, ev_r29_19 E]) ⟨ev_h29_0 hl0 hd6 hE hXs hA S hname, ⟨ev_h29_1 hl0 hd6 hE hXs hA S hname, ⟨ev_h29_2 hl0 hd6 hE hXs hA S hname, ⟨ev_h29_3 hl0 hd6 hE hXs hA S hname, ⟨ev_h29_4 hl0 hd6 hE hXs hA S hname, ⟨ev_h29_5 hl0 hd6 hE hXs hA S hname, ⟨ev_h29_6 hl0 hd6 hE hXs hA S hname, ⟨ev_h29_7 hl0 hd6 hE hXs hA S hname, ⟨ev_h29_8 hl0 hd6 hE hXs hA S hname, ⟨ev_h29_9 hl0 hd6 hE hXs hA S hname, ⟨ev_h29_10 hl0 hd6 hE hXs hA S hname, ⟨ev_h29_11 hl0 hd6 hE hXs hA S hname, ⟨ev_h29_12 hl0 hd6 hE hXs hA S hname, ⟨ev_h29_13 hl0 hd6 hE hXs hA S hname, ⟨ev_h29_14 hl0 hd6 hE hXs hA S hname, ⟨ev_h29_15 hl0 hd6 hE hXs hA S hname, ⟨ev_h29_16 hl0 hd6 hE hXs hA S hname, ⟨ev_h29_17 hl0 hd6 hE hXs hA S hname, ⟨ev_h29_18 hl0 hd6 hE hXs hA S hname, ⟨ev_h29_19 hl0 hd6 hE hXs hA S hname, trivial⟩⟩⟩⟩⟩⟩⟩⟩⟩⟩⟩⟩⟩⟩⟩⟩⟩⟩⟩⟩ (pc := pc) (x := x)
  exact ⟨fun pc f hf => K pc _ hf, fun pc k hk => K pc _ hk⟩
theorem ev_t30 {l : Launch} {D : va_G} {A : Nat → Prop} {ex : Nat → Value} (hl0 : l.stackTraces = false) : ev_TabQ2 l D ev_cl A ex ev_ty (ev_XT A ex) ev_y ev_b ev_nL ev_ret ev_ws ev_cm ev_sm 30 ev_m30 := by
  refine Or.inr ⟨by decide +kernel, ⟨ev_W, Or.inl rfl⟩, fun d E hd6 hE p e R s m args below meth c Q ad0 hx hb hml hname hown hts hXs hA hR => ?_⟩
  subst hR
  have S : CallFix p m c cX2_tellReserved 1 s args ev_W RX2 := ⟨hx, hb, hml, hown, fun w hw => hts w (List.mem_cons_of_mem _ hw)⟩
  have K := fun (pc : Nat) (x : ev_I ⊕ Nat) => ev_code_at (P := fun pc f => ev_Sim p l e ({ frames := d + 1, cells := 80, slots := 2272, locals := 64 * (d + 1) } : Room) s m args below meth c Q 1 D ev_cl A s.heap ex ad0 ev_ty pc f) (K := fun pc k => ev_stop k cX2_tellReserved pc none) (t := [ev_r30_0 E, ev_r30_1 E, ev_r30_2 E, ev_r30_3 E, ev_r30_4 E, ev_r30_5 E, ev_r30_6 E, ev_r30_7 E]) ⟨ev_h30_0 hl0 hd6 hE hXs hA S hname, ⟨ev_h30_1 hl0 hd6 hE hXs hA S hname, ⟨ev_h30_2 hl0 hd6 hE hXs hA S hname, ⟨ev_h30_3 hl0 hd6 hE hXs hA S hname, ⟨ev_h30_4 hl0 hd6 hE hXs hA S hname, ⟨ev_h30_5 hl0 hd6 hE hXs hA S hname, ⟨ev_h30_6 hl0 hd6 hE hXs hA S hname, ⟨ev_h30_7 hl0 hd6 hE hXs hA S hname, trivial⟩⟩⟩⟩⟩⟩⟩⟩ (pc := pc) (x := x)
  exact ⟨fun pc f hf => K pc _ hf, fun pc k hk => K pc _ hk⟩
theorem ev_t31 {l : Launch} {D : va_G} {A : Nat → Prop} {ex : Nat → Value} (hl0 : l.stackTraces = false) : ev_TabQ2 l D ev_cl A ex ev_ty (ev_XT A ex) ev_y ev_b ev_nL ev_ret ev_ws ev_cm ev_sm 31 ev_m31 := by
  refine Or.inr ⟨by decide +kernel, ⟨ev_W, Or.inl rfl⟩, fun d E hd6 hE p e R s m args below meth c Q ad0 hx hb hml hname hown hts hXs hA hR => ?_⟩
  subst hR
  have S : CallFix p m c cX3_init 3 s args ev_W RX3 := ⟨hx, hb, hml, hown, fun w hw => hts w (List.mem_cons_of_mem _ hw)⟩
  have K := fun (pc : Nat) (x : ev_I ⊕ Nat) => ev_code_at (P := fun pc f => ev_Sim p l e ({ frames := d + 1, cells := 0, slots := 0, locals := 64 * (d + 1) } : Room) s m args below meth c Q 3 D ev_cl A s.heap ex ad0 ev_ty pc f) (K := fun pc k => ev_stop k cX3_init pc none) (t := [ev_r31_0 E]) ⟨ev_h31_0 hl0 hd6 hE hXs hA S hname, trivial⟩ (pc := pc) (x := x)
  exact ⟨fun pc f hf => K pc _ hf, fun pc k hk => K pc _ hk⟩
theorem ev_t32 {l : Launch} {D : va_G} {A : Nat → Prop} {ex : Nat → Value} (hl0 : l.stackTraces = false) : ev_TabQ2 l D ev_cl A ex ev_ty (ev_XT A ex) ev_y ev_b ev_nL ev_ret ev_ws ev_cm ev_sm 32 ev_m32 := by
  refine Or.inr ⟨by decide +kernel, ⟨ev_W, Or.inl rfl⟩, fun d E hd6 hE p e R s m args below meth c Q ad0 hx hb hml hname hown hts hXs hA hR => ?_⟩
  subst hR
  have S : CallFix p m c cX4_init 4 s args ev_W RX4 := ⟨hx, hb, hml, hown, fun w hw => hts w (List.mem_cons_of_mem _ hw)⟩
  have K := fun (pc : Nat) (x : ev_I ⊕ Nat) => ev_code_at (P := fun pc f => ev_Sim p l e ({ frames := d + 1, cells := 0, slots := 0, locals := 64 * (d + 1) } : Room) s m args below meth c Q 4 D ev_cl A s.heap ex ad0 ev_ty pc f) (K := fun pc k => ev_stop k cX4_init pc none) (t := [ev_r32_0 E, ev_r32_1 E, ev_r32_2 E, ev_r32_3 E]) ⟨ev_h32_0 hl0 hd6 hE hXs hA S hname, ⟨ev_h32_1 hl0 hd6 hE hXs hA S hname, ⟨ev_h32_2 hl0 hd6 hE hXs hA S hname, ⟨ev_h32_3 hl0 hd6 hE hXs hA S hname, trivial⟩⟩⟩⟩ (pc := pc) (x := x)
  exact ⟨fun pc f hf => K pc _ hf, fun pc k hk => K pc _ hk⟩
theorem ev_t33 {l : Launch} {D : va_G} {A : Nat → Prop} {ex : Nat → Value} (hl0 : l.stackTraces = false) : ev_TabQ2 l D ev_cl A ex ev_ty (ev_XT A ex) ev_y ev_b ev_nL ev_ret ev_ws ev_cm ev_sm 33 ev_m33 := by
  refine Or.inr ⟨by decide +kernel, ⟨ev_W, Or.inl rfl⟩, fun d E hd6 hE p e R s m args below meth c Q ad0 hx hb hml hname hown hts hXs hA hR => ?_⟩
  subst hR
  have S : CallFix p m c cX4_empty 1 s args ev_W RX4 := ⟨hx, hb, hml, hown, fun w hw => hts w (List.mem_cons_of_mem _ hw)⟩
  have K := fun (pc : Nat) (x : ev_I ⊕ Nat) => ev_code_at (P := fun pc f => ev_Sim p l e ({ frames := d + 1, cells := 0, slots := 0, locals := 64 * (d + 1) } : Room) s m args below meth c Q 1 D ev_cl A s.heap ex ad0 ev_ty pc f) (K := fun pc k => ev_stop k cX4_empty pc none) (t := [ev_r33_0 E, ev_r33_1 E]) ⟨ev_h33_0 hl0 hd6 hE hXs hA S hname, ⟨ev_h33_1 hl0 hd6 hE hXs hA S hname, trivial⟩⟩ (pc := pc) (x := x)
  exact ⟨fun pc f hf => K pc _ hf, fun pc k hk => K pc _ hk⟩
theorem ev_t34 {l : Launch} {D : va_G} {A : Nat → Prop} {ex : Nat → Value} (hl0 : l.stackTraces = false) : ev_TabQ2 l D ev_cl A ex ev_ty (ev_XT A ex) ev_y ev_b ev_nL ev_ret ev_ws ev_cm ev_sm 34 ev_m34 := by
  refine Or.inr ⟨by decide +kernel, ⟨ev_W, Or.inl rfl⟩, fun d E hd6 hE p e R s m args below meth c Q ad0 hx hb hml hname hown hts hXs hA hR => ?_⟩
  subst hR
  have S : CallFix p m c cX5_init 2 s args ev_W RX5 := ⟨hx, hb, hml, hown, fun w hw => hts w (List.mem_cons_of_mem _ hw)⟩
  have K := fun (pc : Nat) (x : ev_I ⊕ Nat) => ev_code_at (P := fun pc f => ev_Sim p l e ({ frames := d + 1, cells := 5, slots := 210, locals := 64 * (d + 1) } : Room) s m args below meth c Q 2 D ev_cl A s.heap ex ad0 ev_ty pc f) (K := fun pc k => ev_stop k cX5_init pc none) (t := [ev_r34_0 E, ev_r34_1 E, ev_r34_2 E, ev_r34_3 E]) ⟨ev_h34_0 hl0 hd6 hE hXs hA S hname, ⟨ev_h34_1 hl0 hd6 hE hXs hA S hname, ⟨ev_h34_2 hl0 hd6 hE hXs hA S hname, ⟨ev_h34_3 hl0 hd6 hE hXs hA S hname, trivial⟩⟩⟩⟩ (pc := pc) (x := x)
  exact ⟨fun pc f hf => K pc _ hf, fun pc k hk => K pc _ hk⟩
theorem ev_t35 {l : Launch} {D : va_G} {A : Nat → Prop} {ex : Nat → Value} (hl0 : l.stackTraces = false) : ev_TabQ2 l D ev_cl A ex ev_ty (ev_XT A ex) ev_y ev_b ev_nL ev_ret ev_ws ev_cm ev_sm 35 ev_m35 := by
  refine Or.inr ⟨by decide +kernel, ⟨ev_W, Or.inl rfl⟩, fun d E hd6 hE p e R s m args below meth c Q ad0 hx hb hml hname hown hts hXs hA hR => ?_⟩
  subst hR
  have S : CallFix p m c cX5_accept 2 s args ev_W RX5 := ⟨hx, hb, hml, hown, fun w hw => hts w (List.mem_cons_of_mem _ hw)⟩
  have K := fun (pc : Nat) (x : ev_I ⊕ Nat) => ev_code_at (P := fun pc f => ev_Sim p l e ({ frames := d + 1, cells := 1, slots := 15, locals := 64 * (d + 1) } : Room) s m args below meth c Q 2 D ev_cl A s.heap ex ad0 ev_ty pc f) (K := fun pc k => ev_stop k cX5_accept pc none) (t := [ev_r35_0 E, [], [], ev_r35_3 E, ev_r35_4 E, [], [], [], ev_r35_8 E]) ⟨ev_h35_0 hl0 hd6 hE hXs hA S hname, ⟨ev_pz, ⟨ev_pz, ⟨ev_h35_3 hl0 hd6 hE hXs hA S hname, ⟨ev_h35_4 hl0 hd6 hE hXs hA S hname, ⟨ev_pz, ⟨ev_pz, ⟨ev_pz, ⟨ev_h35_8 hl0 hd6 hE hXs hA S hname, trivial⟩⟩⟩⟩⟩⟩⟩⟩⟩ (pc := pc) (x := x)
  exact ⟨fun pc f hf => K pc _ hf, fun pc k hk => K pc _ hk⟩
theorem ev_t36 {l : Launch} {D : va_G} {A : Nat → Prop} {ex : Nat → Value} (hl0 : l.stackTraces = false) : ev_TabQ2 l D ev_cl A ex ev_ty (ev_XT A ex) ev_y ev_b ev_nL ev_ret ev_ws ev_cm ev_sm 36 ev_m36 := by
  refine Or.inr ⟨by decide +kernel, ⟨ev_W, Or.inl rfl⟩, fun d E hd6 hE p e R s m args below meth c Q ad0 hx hb hml hname hown hts hXs hA hR => ?_⟩
  subst hR
  have S : CallFix p m c cX5_atBegin 2 s args ev_W RX5 := ⟨hx, hb, hml, hown, fun w hw => hts w (List.mem_cons_of_mem _ hw)⟩
  have K := fun (pc : Nat) (x : ev_I ⊕ Nat) => ev_code_at (P := fun pc f => ev_Sim p l e ({ frames := d + 1, cells := 1, slots := 15, locals := 64 * (d + 1) } : Room) s m args below meth c Q 2 D ev_cl A s.heap ex ad0 ev_ty pc f) (K := fun pc k => ev_stop k cX5_atBegin pc none) (t := [ev_r36_0 E, [], [], ev_r36_3 E, [], ev_r36_5 E, ev_r36_6 E, ev_r36_7 E, ev_r36_8 E, ev_r36_9 E, ev_r36_10 E]) ⟨ev_h36_0 hl0 hd6 hE hXs hA S hname, ⟨ev_pz, ⟨ev_pz, ⟨ev_h36_3 hl0 hd6 hE hXs hA S hname, ⟨ev_pz, ⟨ev_h36_5 hl0 hd6 hE hXs hA S hname, ⟨ev_h36_6 hl0 hd6 hE hXs hA S hname, ⟨ev_h36_7 hl0 hd6 hE hXs hA S hname, ⟨ev_h36_8 hl0 hd6 hE hXs hA S hname, ⟨ev_h36_9 hl0 hd6 hE hXs hA S hname, ⟨ev_h36_10 hl0 hd6 hE hXs hA S hname, trivial⟩⟩⟩⟩⟩⟩⟩⟩⟩⟩⟩ (pc := pc) (x := x)
  exact ⟨fun pc f hf => K pc _ hf, fun pc k hk => K pc _ hk⟩
theorem ev_t37 {l : Launch} {D : va_G} {A : Nat → Prop} {ex : Nat → Value} (hl0 : l.stackTraces = false) : ev_TabQ2 l D ev_cl A ex ev_ty (ev_XT A ex) ev_y ev_b ev_nL ev_ret ev_ws ev_cm ev_sm 37 ev_m37 := by
  refine Or.inr ⟨by decide +kernel, ⟨ev_W, Or.inl rfl⟩, fun d E hd6 hE p e R s m args below meth c Q ad0 hx hb hml hname hown hts hXs hA hR => ?_⟩
  subst hR
  have S : CallFix p m c cX5_begins 2 s args ev_W RX5 := ⟨hx, hb, hml, hown, fun w hw => hts w (List.mem_cons_of_mem _ hw)⟩
  have K := fun (pc : Nat) (x : ev_I ⊕ Nat) => ev_code_at (P := fun pc f => ev_Sim p l e ({ frames := d + 1, cells := 0, slots := 0, locals := 64 * (d + 1) } : Room) s m args below meth c Q 2 D ev_cl A s.heap ex ad0 ev_ty pc f) (K := fun pc k => ev_stop k cX5_begins pc (some .boolean)) (t := [ev_r37_0 E, ev_r37_1 E, ev_r37_2 E]) ⟨ev_h37_0 hl0 hd6 hE hXs hA S hname, ⟨ev_h37_1 hl0 hd6 hE hXs hA S hname, ⟨ev_h37_2 hl0 hd6 hE hXs hA S hname, trivial⟩⟩⟩ (pc := pc) (x := x)
  exact ⟨fun pc f hf => K pc _ hf, fun pc k hk => K pc _ hk⟩
theorem ev_t38 {l : Launch} {D : va_G} {A : Nat → Prop} {ex : Nat → Value} (hl0 : l.stackTraces = false) : ev_TabQ2 l D ev_cl A ex ev_ty (ev_XT A ex) ev_y ev_b ev_nL ev_ret ev_ws ev_cm ev_sm 38 ev_m38 := by
  refine Or.inr ⟨by decide +kernel, ⟨ev_W, Or.inl rfl⟩, fun d E hd6 hE p e R s m args below meth c Q ad0 hx hb hml hname hown hts hXs hA hR => ?_⟩
  subst hR
  have S : CallFix p m c cX5_closeByToken 3 s args ev_W RX5 := ⟨hx, hb, hml, hown, fun w hw => hts w (List.mem_cons_of_mem _ hw)⟩
  have K := fun (pc : Nat) (x : ev_I ⊕ Nat) => ev_code_at (P := fun pc f => ev_Sim p l e ({ frames := d + 1, cells := 1, slots := 15, locals := 64 * (d + 1) } : Room) s m args below meth c Q 3 D ev_cl A s.heap ex ad0 ev_ty pc f) (K := fun pc k => ev_stop k cX5_closeByToken pc none) (t := [ev_r38_0 E, ev_r38_1 E, ev_r38_2 E, ev_r38_3 E, [], [], [], [], [], [], ev_r38_10 E]) ⟨ev_h38_0 hl0 hd6 hE hXs hA S hname, ⟨ev_h38_1 hl0 hd6 hE hXs hA S hname, ⟨ev_h38_2 hl0 hd6 hE hXs hA S hname, ⟨ev_h38_3 hl0 hd6 hE hXs hA S hname, ⟨ev_pz, ⟨ev_pz, ⟨ev_pz, ⟨ev_pz, ⟨ev_pz, ⟨ev_pz, ⟨ev_h38_10 hl0 hd6 hE hXs hA S hname, trivial⟩⟩⟩⟩⟩⟩⟩⟩⟩⟩⟩ (pc := pc) (x := x)
  exact ⟨fun pc f hf => K pc _ hf, fun pc k hk => K pc _ hk⟩
theorem ev_t39 {l : Launch} {D : va_G} {A : Nat → Prop} {ex : Nat → Value} (hl0 : l.stackTraces = false) : ev_TabQ2 l D ev_cl A ex ev_ty (ev_XT A ex) ev_y ev_b ev_nL ev_ret ev_ws ev_cm ev_sm 39 ev_m39 := by
  refine Or.inr ⟨by decide +kernel, ⟨ev_W, Or.inl rfl⟩, fun d E hd6 hE p e R s m args below meth c Q ad0 hx hb hml hname hown hts hXs hA hR => ?_⟩
  subst hR
  have S : CallFix p m c cX5_endText 5 s args ev_W RX5 := ⟨hx, hb, hml, hown, fun w hw => hts w (List.mem_cons_of_mem _ hw)⟩
  have K := fun (pc : Nat) (x : ev_I ⊕ Nat) => ev_code_at (P := fun pc f => ev_Sim p l e ({ frames := d + 1, cells := 1, slots := 15, locals := 64 * (d + 1) } : Room) s m args below meth c Q 5 D ev_cl A s.heap ex ad0 ev_ty pc f) (K := fun pc k => ev_stop k cX5_endText pc none) (t := [ev_r39_0 E, ev_r39_1 E, ev_r39_2 E]) ⟨ev_h39_0 hl0 hd6 hE hXs hA S hname, ⟨ev_h39_1 hl0 hd6 hE hXs hA S hname, ⟨ev_h39_2 hl0 hd6 hE hXs hA S hname, trivial⟩⟩⟩ (pc := pc) (x := x)
  exact ⟨fun pc f hf => K pc _ hf, fun pc k hk => K pc _ hk⟩
theorem ev_t40 {l : Launch} {D : va_G} {A : Nat → Prop} {ex : Nat → Value} (hl0 : l.stackTraces = false) : ev_TabQ2 l D ev_cl A ex ev_ty (ev_XT A ex) ev_y ev_b ev_nL ev_ret ev_ws ev_cm ev_sm 40 ev_m40 := by
  refine Or.inr ⟨by decide +kernel, ⟨ev_W, Or.inl rfl⟩, fun d E hd6 hE p e R s m args below meth c Q ad0 hx hb hml hname hown hts hXs hA hR => ?_⟩
  subst hR
  have S : CallFix p m c cX5_endsWord 1 s args ev_W RX5 := ⟨hx, hb, hml, hown, fun w hw => hts w (List.mem_cons_of_mem _ hw)⟩
  have K := fun (pc : Nat) (x : ev_I ⊕ Nat) => ev_code_at (P := fun pc f => ev_Sim p l e ({ frames := d + 1, cells := 0, slots := 0, locals := 64 * (d + 1) } : Room) s m args below meth c Q 1 D ev_cl A s.heap ex ad0 ev_ty pc f) (K := fun pc k => ev_stop k cX5_endsWord pc (some .boolean)) (t := [ev_r40_0 E, [], [], [], [], ev_r40_5 E]) ⟨ev_h40_0 hl0 hd6 hE hXs hA S hname, ⟨ev_pz, ⟨ev_pz, ⟨ev_pz, ⟨ev_pz, ⟨ev_h40_5 hl0 hd6 hE hXs hA S hname, trivial⟩⟩⟩⟩⟩⟩ (pc := pc) (x := x)
  exact ⟨fun pc f hf => K pc _ hf, fun pc k hk => K pc _ hk⟩
theorem ev_t41 {l : Launch} {D : va_G} {A : Nat → Prop} {ex : Nat → Value} (hl0 : l.stackTraces = false) : ev_TabQ2 l D ev_cl A ex ev_ty (ev_XT A ex) ev_y ev_b ev_nL ev_ret ev_ws ev_cm ev_sm 41 ev_m41 := by
  refine Or.inr ⟨by decide +kernel, ⟨ev_W, Or.inl rfl⟩, fun d E hd6 hE p e R s m args below meth c Q ad0 hx hb hml hname hown hts hXs hA hR => ?_⟩
  subst hR
  have S : CallFix p m c cX5_enter 6 s args ev_W RX5 := ⟨hx, hb, hml, hown, fun w hw => hts w (List.mem_cons_of_mem _ hw)⟩
  have K := fun (pc : Nat) (x : ev_I ⊕ Nat) => ev_code_at (P := fun pc f => ev_Sim p l e ({ frames := d + 1, cells := 1, slots := 19, locals := 64 * (d + 1) } : Room) s m args below meth c Q 6 D ev_cl A s.heap ex ad0 ev_ty pc f) (K := fun pc k => ev_stop k cX5_enter pc (some (.object "TextShell$Frame"))) (t := [ev_r41_0 E, [], [], [], ev_r41_4 E, ev_r41_5 E, ev_r41_6 E, ev_r41_7 E, ev_r41_8 E]) ⟨ev_h41_0 hl0 hd6 hE hXs hA S hname, ⟨ev_pz, ⟨ev_pz, ⟨ev_pz, ⟨ev_h41_4 hl0 hd6 hE hXs hA S hname, ⟨ev_h41_5 hl0 hd6 hE hXs hA S hname, ⟨ev_h41_6 hl0 hd6 hE hXs hA S hname, ⟨ev_h41_7 hl0 hd6 hE hXs hA S hname, ⟨ev_h41_8 hl0 hd6 hE hXs hA S hname, trivial⟩⟩⟩⟩⟩⟩⟩⟩⟩ (pc := pc) (x := x)
  exact ⟨fun pc f hf => K pc _ hf, fun pc k hk => K pc _ hk⟩
theorem ev_t42 {l : Launch} {D : va_G} {A : Nat → Prop} {ex : Nat → Value} (hl0 : l.stackTraces = false) : ev_TabQ2 l D ev_cl A ex ev_ty (ev_XT A ex) ev_y ev_b ev_nL ev_ret ev_ws ev_cm ev_sm 42 ev_m42 := by
  refine Or.inr ⟨by decide +kernel, ⟨ev_W, Or.inl rfl⟩, fun d E hd6 hE p e R s m args below meth c Q ad0 hx hb hml hname hown hts hXs hA hR => ?_⟩
  subst hR
  have S : CallFix p m c cX5_isRedirection 1 s args ev_W RX5 := ⟨hx, hb, hml, hown, fun w hw => hts w (List.mem_cons_of_mem _ hw)⟩
  have K := fun (pc : Nat) (x : ev_I ⊕ Nat) => ev_code_at (P := fun pc f => ev_Sim p l e ({ frames := d + 1, cells := 0, slots := 0, locals := 64 * (d + 1) } : Room) s m args below meth c Q 1 D ev_cl A s.heap ex ad0 ev_ty pc f) (K := fun pc k => ev_stop k cX5_isRedirection pc (some .boolean)) (t := [ev_r42_0 E, ev_r42_1 E]) ⟨ev_h42_0 hl0 hd6 hE hXs hA S hname, ⟨ev_h42_1 hl0 hd6 hE hXs hA S hname, trivial⟩⟩ (pc := pc) (x := x)
  exact ⟨fun pc f hf => K pc _ hf, fun pc k hk => K pc _ hk⟩
theorem ev_t43 {l : Launch} {D : va_G} {A : Nat → Prop} {ex : Nat → Value} (hl0 : l.stackTraces = false) : ev_TabQ2 l D ev_cl A ex ev_ty (ev_XT A ex) ev_y ev_b ev_nL ev_ret ev_ws ev_cm ev_sm 43 ev_m43 := by
  refine Or.inr ⟨by decide +kernel, ⟨ev_W, Or.inl rfl⟩, fun d E hd6 hE p e R s m args below meth c Q ad0 hx hb hml hname hown hts hXs hA hR => ?_⟩
  subst hR
  have S : CallFix p m c cX5_look 3 s args ev_W RX5 := ⟨hx, hb, hml, hown, fun w hw => hts w (List.mem_cons_of_mem _ hw)⟩
  have K := fun (pc : Nat) (x : ev_I ⊕ Nat) => ev_code_at (P := fun pc f => ev_Sim p l e ({ frames := d + 1, cells := 0, slots := 0, locals := 64 * (d + 1) } : Room) s m args below meth c Q 3 D ev_cl A s.heap ex ad0 ev_ty pc f) (K := fun pc k => ev_stop k cX5_look pc (some .int)) (t := [ev_r43_0 E, ev_r43_1 E, ev_r43_2 E, ev_r43_3 E, [], [], ev_r43_6 E]) ⟨ev_h43_0 hl0 hd6 hE hXs hA S hname, ⟨ev_h43_1 hl0 hd6 hE hXs hA S hname, ⟨ev_h43_2 hl0 hd6 hE hXs hA S hname, ⟨ev_h43_3 hl0 hd6 hE hXs hA S hname, ⟨ev_pz, ⟨ev_pz, ⟨ev_h43_6 hl0 hd6 hE hXs hA S hname, trivial⟩⟩⟩⟩⟩⟩⟩ (pc := pc) (x := x)
  exact ⟨fun pc f hf => K pc _ hf, fun pc k hk => K pc _ hk⟩
theorem ev_t44 {l : Launch} {D : va_G} {A : Nat → Prop} {ex : Nat → Value} (hl0 : l.stackTraces = false) : ev_TabQ2 l D ev_cl A ex ev_ty (ev_XT A ex) ev_y ev_b ev_nL ev_ret ev_ws ev_cm ev_sm 44 ev_m44 := by
  refine Or.inr ⟨by decide +kernel, ⟨ev_W, Or.inl rfl⟩, fun d E hd6 hE p e R s m args below meth c Q ad0 hx hb hml hname hown hts hXs hA hR => ?_⟩
  subst hR
  have S : CallFix p m c cX5_newline 3 s args ev_W RX5 := ⟨hx, hb, hml, hown, fun w hw => hts w (List.mem_cons_of_mem _ hw)⟩
  have K := fun (pc : Nat) (x : ev_I ⊕ Nat) => ev_code_at (P := fun pc f => ev_Sim p l e ({ frames := d + 1, cells := 0, slots := 0, locals := 64 * (d + 1) } : Room) s m args below meth c Q 3 D ev_cl A s.heap ex ad0 ev_ty pc f) (K := fun pc k => ev_stop k cX5_newline pc none) (t := [ev_r44_0 E, [], ev_r44_2 E]) ⟨ev_h44_0 hl0 hd6 hE hXs hA S hname, ⟨ev_pz, ⟨ev_h44_2 hl0 hd6 hE hXs hA S hname, trivial⟩⟩⟩ (pc := pc) (x := x)
  exact ⟨fun pc f hf => K pc _ hf, fun pc k hk => K pc _ hk⟩
theorem ev_t45 {l : Launch} {D : va_G} {A : Nat → Prop} {ex : Nat → Value} (hl0 : l.stackTraces = false) : ev_TabQ2 l D ev_cl A ex ev_ty (ev_XT A ex) ev_y ev_b ev_nL ev_ret ev_ws ev_cm ev_sm 45 ev_m45 := by
  refine Or.inr ⟨by decide +kernel, ⟨ev_W, Or.inl rfl⟩, fun d E hd6 hE p e R s m args below meth c Q ad0 hx hb hml hname hown hts hXs hA hR => ?_⟩
  subst hR
  have S : CallFix p m c cX5_nextToken 5 s args ev_W RX5 := ⟨hx, hb, hml, hown, fun w hw => hts w (List.mem_cons_of_mem _ hw)⟩
  have K := fun (pc : Nat) (x : ev_I ⊕ Nat) => ev_code_at (P := fun pc f => ev_Sim p l e ({ frames := d + 1, cells := 0, slots := 0, locals := 64 * (d + 1) } : Room) s m args below meth c Q 5 D ev_cl A s.heap ex ad0 ev_ty pc f) (K := fun pc k => ev_stop k cX5_nextToken pc none) (t := [ev_r45_0 E, ev_r45_1 E, ev_r45_2 E, ev_r45_3 E, ev_r45_4 E, [], [], [], ev_r45_8 E]) ⟨ev_h45_0 hl0 hd6 hE hXs hA S hname, ⟨ev_h45_1 hl0 hd6 hE hXs hA S hname, ⟨ev_h45_2 hl0 hd6 hE hXs hA S hname, ⟨ev_h45_3 hl0 hd6 hE hXs hA S hname, ⟨ev_h45_4 hl0 hd6 hE hXs hA S hname, ⟨ev_pz, ⟨ev_pz, ⟨ev_pz, ⟨ev_h45_8 hl0 hd6 hE hXs hA S hname, trivial⟩⟩⟩⟩⟩⟩⟩⟩⟩ (pc := pc) (x := x)
  exact ⟨fun pc f hf => K pc _ hf, fun pc k hk => K pc _ hk⟩
theorem ev_t46 {l : Launch} {D : va_G} {A : Nat → Prop} {ex : Nat → Value} (hl0 : l.stackTraces = false) : ev_TabQ2 l D ev_cl A ex ev_ty (ev_XT A ex) ev_y ev_b ev_nL ev_ret ev_ws ev_cm ev_sm 46 ev_m46 := by
  refine Or.inr ⟨by decide +kernel, ⟨ev_W, Or.inl rfl⟩, fun d E hd6 hE p e R s m args below meth c Q ad0 hx hb hml hname hown hts hXs hA hR => ?_⟩
  subst hR
  have S : CallFix p m c cX5_openText 6 s args ev_W RX5 := ⟨hx, hb, hml, hown, fun w hw => hts w (List.mem_cons_of_mem _ hw)⟩
  have K := fun (pc : Nat) (x : ev_I ⊕ Nat) => ev_code_at (P := fun pc f => ev_Sim p l e ({ frames := d + 1, cells := 4, slots := 94, locals := 64 * (d + 1) } : Room) s m args below meth c Q 6 D ev_cl A s.heap ex ad0 ev_ty pc f) (K := fun pc k => ev_stop k cX5_openText pc (some (.object "TextShell$Frame"))) (t := [ev_r46_0 E, ev_r46_1 E, ev_r46_2 E, ev_r46_3 E, ev_r46_4 E]) ⟨ev_h46_0 hl0 hd6 hE hXs hA S hname, ⟨ev_h46_1 hl0 hd6 hE hXs hA S hname, ⟨ev_h46_2 hl0 hd6 hE hXs hA S hname, ⟨ev_h46_3 hl0 hd6 hE hXs hA S hname, ⟨ev_h46_4 hl0 hd6 hE hXs hA S hname, trivial⟩⟩⟩⟩⟩ (pc := pc) (x := x)
  exact ⟨fun pc f hf => K pc _ hf, fun pc k hk => K pc _ hk⟩
theorem ev_t47 {l : Launch} {D : va_G} {A : Nat → Prop} {ex : Nat → Value} (hl0 : l.stackTraces = false) : ev_TabQ2 l D ev_cl A ex ev_ty (ev_XT A ex) ev_y ev_b ev_nL ev_ret ev_ws ev_cm ev_sm 47 ev_m47 := by
  refine Or.inr ⟨by decide +kernel, ⟨ev_W, Or.inl rfl⟩, fun d E hd6 hE p e R s m args below meth c Q ad0 hx hb hml hname hown hts hXs hA hR => ?_⟩
  subst hR
  have S : CallFix p m c cX5_operator 2 s args ev_W RX5 := ⟨hx, hb, hml, hown, fun w hw => hts w (List.mem_cons_of_mem _ hw)⟩
  have K := fun (pc : Nat) (x : ev_I ⊕ Nat) => ev_code_at (P := fun pc f => ev_Sim p l e ({ frames := d + 1, cells := 0, slots := 0, locals := 64 * (d + 1) } : Room) s m args below meth c Q 2 D ev_cl A s.heap ex ad0 ev_ty pc f) (K := fun pc k => ev_stop k cX5_operator pc (some .int)) (t := [ev_r47_0 E, [], [], [], ev_r47_4 E]) ⟨ev_h47_0 hl0 hd6 hE hXs hA S hname, ⟨ev_pz, ⟨ev_pz, ⟨ev_pz, ⟨ev_h47_4 hl0 hd6 hE hXs hA S hname, trivial⟩⟩⟩⟩⟩ (pc := pc) (x := x)
  exact ⟨fun pc f hf => K pc _ hf, fun pc k hk => K pc _ hk⟩
theorem ev_t48 {l : Launch} {D : va_G} {A : Nat → Prop} {ex : Nat → Value} (hl0 : l.stackTraces = false) : ev_TabQ2 l D ev_cl A ex ev_ty (ev_XT A ex) ev_y ev_b ev_nL ev_ret ev_ws ev_cm ev_sm 48 ev_m48 := by
  refine Or.inr ⟨by decide +kernel, ⟨ev_W, Or.inl rfl⟩, fun d E hd6 hE p e R s m args below meth c Q ad0 hx hb hml hname hown hts hXs hA hR => ?_⟩
  subst hR
  have S : CallFix p m c cX5_parse 5 s args ev_W RX5 := ⟨hx, hb, hml, hown, fun w hw => hts w (List.mem_cons_of_mem _ hw)⟩
  have K := fun (pc : Nat) (x : ev_I ⊕ Nat) => ev_code_at (P := fun pc f => ev_Sim p l e ({ frames := d + 1, cells := 6, slots := 124, locals := 64 * (d + 1) } : Room) s m args below meth c Q 5 D ev_cl A s.heap ex ad0 ev_ty pc f) (K := fun pc k => ev_stop k cX5_parse pc (some .boolean)) (t := [ev_r48_0 E, ev_r48_1 E, ev_r48_2 E, ev_r48_3 E, ev_r48_4 E, ev_r48_5 E, ev_r48_6 E, ev_r48_7 E, ev_r48_8 E, ev_r48_9 E, [], [], ev_r48_12 E, ev_r48_13 E]) ⟨ev_h48_0 hl0 hd6 hE hXs hA S hname, ⟨ev_h48_1 hl0 hd6 hE hXs hA S hname, ⟨ev_h48_2 hl0 hd6 hE hXs hA S hname, ⟨ev_h48_3 hl0 hd6 hE hXs hA S hname, ⟨ev_h48_4 hl0 hd6 hE hXs hA S hname, ⟨ev_h48_5 hl0 hd6 hE hXs hA S hname, ⟨ev_h48_6 hl0 hd6 hE hXs hA S hname, ⟨ev_h48_7 hl0 hd6 hE hXs hA S hname, ⟨ev_h48_8 hl0 hd6 hE hXs hA S hname, ⟨ev_h48_9 hl0 hd6 hE hXs hA S hname, ⟨ev_pz, ⟨ev_pz, ⟨ev_h48_12 hl0 hd6 hE hXs hA S hname, ⟨ev_h48_13 hl0 hd6 hE hXs hA S hname, trivial⟩⟩⟩⟩⟩⟩⟩⟩⟩⟩⟩⟩⟩⟩ (pc := pc) (x := x)
  exact ⟨fun pc f hf => K pc _ hf, fun pc k hk => K pc _ hk⟩
theorem ev_t49 {l : Launch} {D : va_G} {A : Nat → Prop} {ex : Nat → Value} (hl0 : l.stackTraces = false) : ev_TabQ2 l D ev_cl A ex ev_ty (ev_XT A ex) ev_y ev_b ev_nL ev_ret ev_ws ev_cm ev_sm 49 ev_m49 := by
  refine Or.inr ⟨by decide +kernel, ⟨ev_W, Or.inl rfl⟩, fun d E hd6 hE p e R s m args below meth c Q ad0 hx hb hml hname hown hts hXs hA hR => ?_⟩
  subst hR
  have S : CallFix p m c cX5_pass 2 s args ev_W RX5 := ⟨hx, hb, hml, hown, fun w hw => hts w (List.mem_cons_of_mem _ hw)⟩
  have K := fun (pc : Nat) (x : ev_I ⊕ Nat) => ev_code_at (P := fun pc f => ev_Sim p l e ({ frames := d + 1, cells := 0, slots := 0, locals := 64 * (d + 1) } : Room) s m args below meth c Q 2 D ev_cl A s.heap ex ad0 ev_ty pc f) (K := fun pc k => ev_stop k cX5_pass pc none) (t := [ev_r49_0 E, ev_r49_1 E, ev_r49_2 E]) ⟨ev_h49_0 hl0 hd6 hE hXs hA S hname, ⟨ev_h49_1 hl0 hd6 hE hXs hA S hname, ⟨ev_h49_2 hl0 hd6 hE hXs hA S hname, trivial⟩⟩⟩ (pc := pc) (x := x)
  exact ⟨fun pc f hf => K pc _ hf, fun pc k hk => K pc _ hk⟩
theorem ev_t50 {l : Launch} {D : va_G} {A : Nat → Prop} {ex : Nat → Value} (hl0 : l.stackTraces = false) : ev_TabQ2 l D ev_cl A ex ev_ty (ev_XT A ex) ev_y ev_b ev_nL ev_ret ev_ws ev_cm ev_sm 50 ev_m50 := by
  refine Or.inr ⟨by decide +kernel, ⟨ev_W, Or.inl rfl⟩, fun d E hd6 hE p e R s m args below meth c Q ad0 hx hb hml hname hown hts hXs hA hR => ?_⟩
  subst hR
  have S : CallFix p m c cX5_skipBlanks 6 s args ev_W RX5 := ⟨hx, hb, hml, hown, fun w hw => hts w (List.mem_cons_of_mem _ hw)⟩
  have K := fun (pc : Nat) (x : ev_I ⊕ Nat) => ev_code_at (P := fun pc f => ev_Sim p l e ({ frames := d + 1, cells := 0, slots := 0, locals := 64 * (d + 1) } : Room) s m args below meth c Q 6 D ev_cl A s.heap ex ad0 ev_ty pc f) (K := fun pc k => ev_stop k cX5_skipBlanks pc (some .boolean)) (t := [ev_r50_0 E, ev_r50_1 E, ev_r50_2 E, [], [], [], ev_r50_6 E, ev_r50_7 E, [], [], [], [], ev_r50_12 E]) ⟨ev_h50_0 hl0 hd6 hE hXs hA S hname, ⟨ev_h50_1 hl0 hd6 hE hXs hA S hname, ⟨ev_h50_2 hl0 hd6 hE hXs hA S hname, ⟨ev_pz, ⟨ev_pz, ⟨ev_pz, ⟨ev_h50_6 hl0 hd6 hE hXs hA S hname, ⟨ev_h50_7 hl0 hd6 hE hXs hA S hname, ⟨ev_pz, ⟨ev_pz, ⟨ev_pz, ⟨ev_pz, ⟨ev_h50_12 hl0 hd6 hE hXs hA S hname, trivial⟩⟩⟩⟩⟩⟩⟩⟩⟩⟩⟩⟩⟩ (pc := pc) (x := x)
  exact ⟨fun pc f hf => K pc _ hf, fun pc k hk => K pc _ hk⟩
theorem ev_t51 {l : Launch} {D : va_G} {A : Nat → Prop} {ex : Nat → Value} (hl0 : l.stackTraces = false) : ev_TabQ2 l D ev_cl A ex ev_ty (ev_XT A ex) ev_y ev_b ev_nL ev_ret ev_ws ev_cm ev_sm 51 ev_m51 := by
  refine Or.inr ⟨by decide +kernel, ⟨ev_W, Or.inl rfl⟩, fun d E hd6 hE p e R s m args below meth c Q ad0 hx hb hml hname hown hts hXs hA hR => ?_⟩
  subst hR
  have S : CallFix p m c cX5_top 1 s args ev_W RX5 := ⟨hx, hb, hml, hown, fun w hw => hts w (List.mem_cons_of_mem _ hw)⟩
  have K := fun (pc : Nat) (x : ev_I ⊕ Nat) => ev_code_at (P := fun pc f => ev_Sim p l e ({ frames := d + 1, cells := 0, slots := 0, locals := 64 * (d + 1) } : Room) s m args below meth c Q 1 D ev_cl A s.heap ex ad0 ev_ty pc f) (K := fun pc k => ev_stop k cX5_top pc (some (.object "TextShell$Frame"))) (t := [ev_r51_0 E, ev_r51_1 E]) ⟨ev_h51_0 hl0 hd6 hE hXs hA S hname, ⟨ev_h51_1 hl0 hd6 hE hXs hA S hname, trivial⟩⟩ (pc := pc) (x := x)
  exact ⟨fun pc f hf => K pc _ hf, fun pc k hk => K pc _ hk⟩
theorem ev_t52 {l : Launch} {D : va_G} {A : Nat → Prop} {ex : Nat → Value} (hl0 : l.stackTraces = false) : ev_TabQ2 l D ev_cl A ex ev_ty (ev_XT A ex) ev_y ev_b ev_nL ev_ret ev_ws ev_cm ev_sm 52 ev_m52 := by
  refine Or.inr ⟨by decide +kernel, ⟨ev_W, Or.inl rfl⟩, fun d E hd6 hE p e R s m args below meth c Q ad0 hx hb hml hname hown hts hXs hA hR => ?_⟩
  subst hR
  have S : CallFix p m c cX6_init 2 s args ev_W RX6 := ⟨hx, hb, hml, hown, fun w hw => hts w (List.mem_cons_of_mem _ hw)⟩
  have K := fun (pc : Nat) (x : ev_I ⊕ Nat) => ev_code_at (P := fun pc f => ev_Sim p l e ({ frames := d + 1, cells := 1, slots := 64, locals := 64 * (d + 1) } : Room) s m args below meth c Q 2 D ev_cl A s.heap ex ad0 ev_ty pc f) (K := fun pc k => ev_stop k cX6_init pc none) (t := [ev_r52_0 E, ev_r52_1 E]) ⟨ev_h52_0 hl0 hd6 hE hXs hA S hname, ⟨ev_h52_1 hl0 hd6 hE hXs hA S hname, trivial⟩⟩ (pc := pc) (x := x)
  exact ⟨fun pc f hf => K pc _ hf, fun pc k hk => K pc _ hk⟩
theorem ev_t53 {l : Launch} {D : va_G} {A : Nat → Prop} {ex : Nat → Value} (hl0 : l.stackTraces = false) : ev_TabQ2 l D ev_cl A ex ev_ty (ev_XT A ex) ev_y ev_b ev_nL ev_ret ev_ws ev_cm ev_sm 53 ev_m53 := by
  refine Or.inr ⟨by decide +kernel, ⟨ev_W, Or.inl rfl⟩, fun d E hd6 hE p e R s m args below meth c Q ad0 hx hb hml hname hown hts hXs hA hR => ?_⟩
  subst hR
  have S : CallFix p m c cX6_add 3 s args ev_W RX6 := ⟨hx, hb, hml, hown, fun w hw => hts w (List.mem_cons_of_mem _ hw)⟩
  have K := fun (pc : Nat) (x : ev_I ⊕ Nat) => ev_code_at (P := fun pc f => ev_Sim p l e ({ frames := d + 1, cells := 0, slots := 0, locals := 64 * (d + 1) } : Room) s m args below meth c Q 3 D ev_cl A s.heap ex ad0 ev_ty pc f) (K := fun pc k => ev_stop k cX6_add pc none) (t := [ev_r53_0 E, [], ev_r53_2 E, ev_r53_3 E, ev_r53_4 E, ev_r53_5 E]) ⟨ev_h53_0 hl0 hd6 hE hXs hA S hname, ⟨ev_pz, ⟨ev_h53_2 hl0 hd6 hE hXs hA S hname, ⟨ev_h53_3 hl0 hd6 hE hXs hA S hname, ⟨ev_h53_4 hl0 hd6 hE hXs hA S hname, ⟨ev_h53_5 hl0 hd6 hE hXs hA S hname, trivial⟩⟩⟩⟩⟩⟩ (pc := pc) (x := x)
  exact ⟨fun pc f hf => K pc _ hf, fun pc k hk => K pc _ hk⟩
theorem ev_t54 {l : Launch} {D : va_G} {A : Nat → Prop} {ex : Nat → Value} (hl0 : l.stackTraces = false) : ev_TabQ2 l D ev_cl A ex ev_ty (ev_XT A ex) ev_y ev_b ev_nL ev_ret ev_ws ev_cm ev_sm 54 ev_m54 := by
  refine Or.inr ⟨by decide +kernel, ⟨ev_W, Or.inl rfl⟩, fun d E hd6 hE p e R s m args below meth c Q ad0 hx hb hml hname hown hts hXs hA hR => ?_⟩
  subst hR
  have S : CallFix p m c cX6_addPart 5 s args ev_W RX6 := ⟨hx, hb, hml, hown, fun w hw => hts w (List.mem_cons_of_mem _ hw)⟩
  have K := fun (pc : Nat) (x : ev_I ⊕ Nat) => ev_code_at (P := fun pc f => ev_Sim p l e ({ frames := d + 1, cells := 0, slots := 0, locals := 64 * (d + 1) } : Room) s m args below meth c Q 5 D ev_cl A s.heap ex ad0 ev_ty pc f) (K := fun pc k => ev_stop k cX6_addPart pc none) (t := [ev_r54_0 E, ev_r54_1 E]) ⟨ev_h54_0 hl0 hd6 hE hXs hA S hname, ⟨ev_h54_1 hl0 hd6 hE hXs hA S hname, trivial⟩⟩ (pc := pc) (x := x)
  exact ⟨fun pc f hf => K pc _ hf, fun pc k hk => K pc _ hk⟩
theorem ev_t55 {l : Launch} {D : va_G} {A : Nat → Prop} {ex : Nat → Value} (hl0 : l.stackTraces = false) : ev_TabQ2 l D ev_cl A ex ev_ty (ev_XT A ex) ev_y ev_b ev_nL ev_ret ev_ws ev_cm ev_sm 55 ev_m55 := by
  refine Or.inr ⟨by decide +kernel, ⟨ev_W, Or.inl rfl⟩, fun d E hd6 hE p e R s m args below meth c Q ad0 hx hb hml hname hown hts hXs hA hR => ?_⟩
  subst hR
  have S : CallFix p m c cX6_addText 3 s args ev_W RX6 := ⟨hx, hb, hml, hown, fun w hw => hts w (List.mem_cons_of_mem _ hw)⟩
  have K := fun (pc : Nat) (x : ev_I ⊕ Nat) => ev_code_at (P := fun pc f => ev_Sim p l e ({ frames := d + 1, cells := 0, slots := 0, locals := 64 * (d + 1) } : Room) s m args below meth c Q 3 D ev_cl A s.heap ex ad0 ev_ty pc f) (K := fun pc k => ev_stop k cX6_addText pc none) (t := [ev_r55_0 E, ev_r55_1 E]) ⟨ev_h55_0 hl0 hd6 hE hXs hA S hname, ⟨ev_h55_1 hl0 hd6 hE hXs hA S hname, trivial⟩⟩ (pc := pc) (x := x)
  exact ⟨fun pc f hf => K pc _ hf, fun pc k hk => K pc _ hk⟩
theorem ev_t56 {l : Launch} {D : va_G} {A : Nat → Prop} {ex : Nat → Value} (hl0 : l.stackTraces = false) : ev_TabQ2 l D ev_cl A ex ev_ty (ev_XT A ex) ev_y ev_b ev_nL ev_ret ev_ws ev_cm ev_sm 56 ev_m56 := by
  refine Or.inr ⟨by decide +kernel, ⟨ev_W, Or.inl rfl⟩, fun d E hd6 hE p e R s m args below meth c Q ad0 hx hb hml hname hown hts hXs hA hR => ?_⟩
  subst hR
  have S : CallFix p m c cX6_at 2 s args ev_W RX6 := ⟨hx, hb, hml, hown, fun w hw => hts w (List.mem_cons_of_mem _ hw)⟩
  have K := fun (pc : Nat) (x : ev_I ⊕ Nat) => ev_code_at (P := fun pc f => ev_Sim p l e ({ frames := d + 1, cells := 0, slots := 0, locals := 64 * (d + 1) } : Room) s m args below meth c Q 2 D ev_cl A s.heap ex ad0 ev_ty pc f) (K := fun pc k => ev_stop k cX6_at pc (some .int)) (t := [ev_r56_0 E, ev_r56_1 E]) ⟨ev_h56_0 hl0 hd6 hE hXs hA S hname, ⟨ev_h56_1 hl0 hd6 hE hXs hA S hname, trivial⟩⟩ (pc := pc) (x := x)
  exact ⟨fun pc f hf => K pc _ hf, fun pc k hk => K pc _ hk⟩
theorem ev_t57 {l : Launch} {D : va_G} {A : Nat → Prop} {ex : Nat → Value} (hl0 : l.stackTraces = false) : ev_TabQ2 l D ev_cl A ex ev_ty (ev_XT A ex) ev_y ev_b ev_nL ev_ret ev_ws ev_cm ev_sm 57 ev_m57 := by
  refine Or.inr ⟨by decide +kernel, ⟨ev_W, Or.inl rfl⟩, fun d E hd6 hE p e R s m args below meth c Q ad0 hx hb hml hname hown hts hXs hA hR => ?_⟩
  subst hR
  have S : CallFix p m c cX6_isName 1 s args ev_W RX6 := ⟨hx, hb, hml, hown, fun w hw => hts w (List.mem_cons_of_mem _ hw)⟩
  have K := fun (pc : Nat) (x : ev_I ⊕ Nat) => ev_code_at (P := fun pc f => ev_Sim p l e ({ frames := d + 1, cells := 0, slots := 0, locals := 64 * (d + 1) } : Room) s m args below meth c Q 1 D ev_cl A s.heap ex ad0 ev_ty pc f) (K := fun pc k => ev_stop k cX6_isName pc (some .boolean)) (t := [ev_r57_0 E]) ⟨ev_h57_0 hl0 hd6 hE hXs hA S hname, trivial⟩ (pc := pc) (x := x)
  exact ⟨fun pc f hf => K pc _ hf, fun pc k hk => K pc _ hk⟩
theorem ev_t58 {l : Launch} {D : va_G} {A : Nat → Prop} {ex : Nat → Value} (hl0 : l.stackTraces = false) : ev_TabQ2 l D ev_cl A ex ev_ty (ev_XT A ex) ev_y ev_b ev_nL ev_ret ev_ws ev_cm ev_sm 58 ev_m58 := by
  refine Or.inr ⟨by decide +kernel, ⟨ev_W, Or.inl rfl⟩, fun d E hd6 hE p e R s m args below meth c Q ad0 hx hb hml hname hown hts hXs hA hR => ?_⟩
  subst hR
  have S : CallFix p m c cX6_isNameUpTo 3 s args ev_W RX6 := ⟨hx, hb, hml, hown, fun w hw => hts w (List.mem_cons_of_mem _ hw)⟩
  have K := fun (pc : Nat) (x : ev_I ⊕ Nat) => ev_code_at (P := fun pc f => ev_Sim p l e ({ frames := d + 1, cells := 0, slots := 0, locals := 64 * (d + 1) } : Room) s m args below meth c Q 3 D ev_cl A s.heap ex ad0 ev_ty pc f) (K := fun pc k => ev_stop k cX6_isNameUpTo pc (some .boolean)) (t := [ev_r58_0 E, ev_r58_1 E]) ⟨ev_h58_0 hl0 hd6 hE hXs hA S hname, ⟨ev_h58_1 hl0 hd6 hE hXs hA S hname, trivial⟩⟩ (pc := pc) (x := x)
  exact ⟨fun pc f hf => K pc _ hf, fun pc k hk => K pc _ hk⟩
theorem ev_t59 {l : Launch} {D : va_G} {A : Nat → Prop} {ex : Nat → Value} (hl0 : l.stackTraces = false) : ev_TabQ2 l D ev_cl A ex ev_ty (ev_XT A ex) ev_y ev_b ev_nL ev_ret ev_ws ev_cm ev_sm 59 ev_m59 := by
  refine Or.inr ⟨by decide +kernel, ⟨ev_W, Or.inl rfl⟩, fun d E hd6 hE p e R s m args below meth c Q ad0 hx hb hml hname hown hts hXs hA hR => ?_⟩
  subst hR
  have S : CallFix p m c cX6_part 5 s args ev_W RX6 := ⟨hx, hb, hml, hown, fun w hw => hts w (List.mem_cons_of_mem _ hw)⟩
  have K := fun (pc : Nat) (x : ev_I ⊕ Nat) => ev_code_at (P := fun pc f => ev_Sim p l e ({ frames := d + 1, cells := 2, slots := 66, locals := 64 * (d + 1) } : Room) s m args below meth c Q 5 D ev_cl A s.heap ex ad0 ev_ty pc f) (K := fun pc k => ev_stop k cX6_part pc (some (.object "TextShell$Row"))) (t := [ev_r59_0 E, ev_r59_1 E, ev_r59_2 E, ev_r59_3 E, ev_r59_4 E, ev_r59_5 E]) ⟨ev_h59_0 hl0 hd6 hE hXs hA S hname, ⟨ev_h59_1 hl0 hd6 hE hXs hA S hname, ⟨ev_h59_2 hl0 hd6 hE hXs hA S hname, ⟨ev_h59_3 hl0 hd6 hE hXs hA S hname, ⟨ev_h59_4 hl0 hd6 hE hXs hA S hname, ⟨ev_h59_5 hl0 hd6 hE hXs hA S hname, trivial⟩⟩⟩⟩⟩⟩ (pc := pc) (x := x)
  exact ⟨fun pc f hf => K pc _ hf, fun pc k hk => K pc _ hk⟩
theorem ev_t60 {l : Launch} {D : va_G} {A : Nat → Prop} {ex : Nat → Value} (hl0 : l.stackTraces = false) : ev_TabQ2 l D ev_cl A ex ev_ty (ev_XT A ex) ev_y ev_b ev_nL ev_ret ev_ws ev_cm ev_sm 60 ev_m60 := by
  refine Or.inr ⟨by decide +kernel, ⟨ev_W, Or.inl rfl⟩, fun d E hd6 hE p e R s m args below meth c Q ad0 hx hb hml hname hown hts hXs hA hR => ?_⟩
  subst hR
  have S : CallFix p m c cX6_same 3 s args ev_W RX6 := ⟨hx, hb, hml, hown, fun w hw => hts w (List.mem_cons_of_mem _ hw)⟩
  have K := fun (pc : Nat) (x : ev_I ⊕ Nat) => ev_code_at (P := fun pc f => ev_Sim p l e ({ frames := d + 1, cells := 0, slots := 0, locals := 64 * (d + 1) } : Room) s m args below meth c Q 3 D ev_cl A s.heap ex ad0 ev_ty pc f) (K := fun pc k => ev_stop k cX6_same pc (some .boolean)) (t := [ev_r60_0 E, ev_r60_1 E, ev_r60_2 E, ev_r60_3 E]) ⟨ev_h60_0 hl0 hd6 hE hXs hA S hname, ⟨ev_h60_1 hl0 hd6 hE hXs hA S hname, ⟨ev_h60_2 hl0 hd6 hE hXs hA S hname, ⟨ev_h60_3 hl0 hd6 hE hXs hA S hname, trivial⟩⟩⟩⟩ (pc := pc) (x := x)
  exact ⟨fun pc f hf => K pc _ hf, fun pc k hk => K pc _ hk⟩
theorem ev_t61 {l : Launch} {D : va_G} {A : Nat → Prop} {ex : Nat → Value} (hl0 : l.stackTraces = false) : ev_TabQ2 l D ev_cl A ex ev_ty (ev_XT A ex) ev_y ev_b ev_nL ev_ret ev_ws ev_cm ev_sm 61 ev_m61 := by
  refine Or.inr ⟨by decide +kernel, ⟨ev_W, Or.inl rfl⟩, fun d E hd6 hE p e R s m args below meth c Q ad0 hx hb hml hname hown hts hXs hA hR => ?_⟩
  subst hR
  have S : CallFix p m c cX7_init 3 s args ev_W RX7 := ⟨hx, hb, hml, hown, fun w hw => hts w (List.mem_cons_of_mem _ hw)⟩
  have K := fun (pc : Nat) (x : ev_I ⊕ Nat) => ev_code_at (P := fun pc f => ev_Sim p l e ({ frames := d + 1, cells := 17, slots := 365, locals := 64 * (d + 1) } : Room) s m args below meth c Q 3 D ev_cl A s.heap ex ad0 ev_ty pc f) (K := fun pc k => ev_stop k cX7_init pc none) (t := [ev_r61_0 E, ev_r61_1 E, ev_r61_2 E, ev_r61_3 E, ev_r61_4 E, ev_r61_5 E, ev_r61_6 E, ev_r61_7 E, ev_r61_8 E, ev_r61_9 E, ev_r61_10 E]) ⟨ev_h61_0 hl0 hd6 hE hXs hA S hname, ⟨ev_h61_1 hl0 hd6 hE hXs hA S hname, ⟨ev_h61_2 hl0 hd6 hE hXs hA S hname, ⟨ev_h61_3 hl0 hd6 hE hXs hA S hname, ⟨ev_h61_4 hl0 hd6 hE hXs hA S hname, ⟨ev_h61_5 hl0 hd6 hE hXs hA S hname, ⟨ev_h61_6 hl0 hd6 hE hXs hA S hname, ⟨ev_h61_7 hl0 hd6 hE hXs hA S hname, ⟨ev_h61_8 hl0 hd6 hE hXs hA S hname, ⟨ev_h61_9 hl0 hd6 hE hXs hA S hname, ⟨ev_h61_10 hl0 hd6 hE hXs hA S hname, trivial⟩⟩⟩⟩⟩⟩⟩⟩⟩⟩⟩ (pc := pc) (x := x)
  exact ⟨fun pc f hf => K pc _ hf, fun pc k hk => K pc _ hk⟩
theorem ev_t62 {l : Launch} {D : va_G} {A : Nat → Prop} {ex : Nat → Value} (hl0 : l.stackTraces = false) : ev_TabQ2 l D ev_cl A ex ev_ty (ev_XT A ex) ev_y ev_b ev_nL ev_ret ev_ws ev_cm ev_sm 62 ev_m62 := by
  refine Or.inr ⟨by decide +kernel, ⟨ev_W, Or.inl rfl⟩, fun d E hd6 hE p e R s m args below meth c Q ad0 hx hb hml hname hown hts hXs hA hR => ?_⟩
  subst hR
  have S : CallFix p m c cX8_init 5 s args ev_W RX8 := ⟨hx, hb, hml, hown, fun w hw => hts w (List.mem_cons_of_mem _ hw)⟩
  have K := fun (pc : Nat) (x : ev_I ⊕ Nat) => ev_code_at (P := fun pc f => ev_Sim p l e ({ frames := d + 1, cells := 0, slots := 0, locals := 64 * (d + 1) } : Room) s m args below meth c Q 5 D ev_cl A s.heap ex ad0 ev_ty pc f) (K := fun pc k => ev_stop k cX8_init pc none) (t := [ev_r62_0 E, ev_r62_1 E]) ⟨ev_h62_0 hl0 hd6 hE hXs hA S hname, ⟨ev_h62_1 hl0 hd6 hE hXs hA S hname, trivial⟩⟩ (pc := pc) (x := x)
  exact ⟨fun pc f hf => K pc _ hf, fun pc k hk => K pc _ hk⟩
theorem ev_t63 {l : Launch} {D : va_G} {A : Nat → Prop} {ex : Nat → Value} (hl0 : l.stackTraces = false) : ev_TabQ2 l D ev_cl A ex ev_ty (ev_XT A ex) ev_y ev_b ev_nL ev_ret ev_ws ev_cm ev_sm 63 ev_m63 := by
  refine Or.inr ⟨by decide +kernel, ⟨ev_W, Or.inl rfl⟩, fun d E hd6 hE p e R s m args below meth c Q ad0 hx hb hml hname hown hts hXs hA hR => ?_⟩
  subst hR
  have S : CallFix p m c cX8_text 5 s args ev_W RX8 := ⟨hx, hb, hml, hown, fun w hw => hts w (List.mem_cons_of_mem _ hw)⟩
  have K := fun (pc : Nat) (x : ev_I ⊕ Nat) => ev_code_at (P := fun pc f => ev_Sim p l e ({ frames := d + 1, cells := 1, slots := 9, locals := 64 * (d + 1) } : Room) s m args below meth c Q 5 D ev_cl A s.heap ex ad0 ev_ty pc f) (K := fun pc k => ev_stop k cX8_text pc (some (.object "TextShell$Stream"))) (t := [ev_r63_0 E, ev_r63_1 E, ev_r63_2 E, ev_r63_3 E]) ⟨ev_h63_0 hl0 hd6 hE hXs hA S hname, ⟨ev_h63_1 hl0 hd6 hE hXs hA S hname, ⟨ev_h63_2 hl0 hd6 hE hXs hA S hname, ⟨ev_h63_3 hl0 hd6 hE hXs hA S hname, trivial⟩⟩⟩⟩ (pc := pc) (x := x)
  exact ⟨fun pc f hf => K pc _ hf, fun pc k hk => K pc _ hk⟩
theorem ev_t64 {l : Launch} {D : va_G} {A : Nat → Prop} {ex : Nat → Value} (hl0 : l.stackTraces = false) : ev_TabQ2 l D ev_cl A ex ev_ty (ev_XT A ex) ev_y ev_b ev_nL ev_ret ev_ws ev_cm ev_sm 64 ev_m64 := by
  refine Or.inr ⟨by decide +kernel, ⟨ev_W, Or.inl rfl⟩, fun d E hd6 hE p e R s m args below meth c Q ad0 hx hb hml hname hown hts hXs hA hR => ?_⟩
  subst hR
  have S : CallFix p m c cX9_init 2 s args ev_W RX9 := ⟨hx, hb, hml, hown, fun w hw => hts w (List.mem_cons_of_mem _ hw)⟩
  have K := fun (pc : Nat) (x : ev_I ⊕ Nat) => ev_code_at (P := fun pc f => ev_Sim p l e ({ frames := d + 1, cells := 4, slots := 6210, locals := 64 * (d + 1) } : Room) s m args below meth c Q 2 D ev_cl A s.heap ex ad0 ev_ty pc f) (K := fun pc k => ev_stop k cX9_init pc none) (t := [ev_r64_0 E, ev_r64_1 E, ev_r64_2 E]) ⟨ev_h64_0 hl0 hd6 hE hXs hA S hname, ⟨ev_h64_1 hl0 hd6 hE hXs hA S hname, ⟨ev_h64_2 hl0 hd6 hE hXs hA S hname, trivial⟩⟩⟩ (pc := pc) (x := x)
  exact ⟨fun pc f hf => K pc _ hf, fun pc k hk => K pc _ hk⟩
theorem ev_t65 {l : Launch} {D : va_G} {A : Nat → Prop} {ex : Nat → Value} (hl0 : l.stackTraces = false) : ev_TabQ2 l D ev_cl A ex ev_ty (ev_XT A ex) ev_y ev_b ev_nL ev_ret ev_ws ev_cm ev_sm 65 ev_m65 := by
  refine Or.inr ⟨by decide +kernel, ⟨ev_W, Or.inl rfl⟩, fun d E hd6 hE p e R s m args below meth c Q ad0 hx hb hml hname hown hts hXs hA hR => ?_⟩
  subst hR
  have S : CallFix p m c cX10_init 4 s args ev_W RX10 := ⟨hx, hb, hml, hown, fun w hw => hts w (List.mem_cons_of_mem _ hw)⟩
  have K := fun (pc : Nat) (x : ev_I ⊕ Nat) => ev_code_at (P := fun pc f => ev_Sim p l e ({ frames := d + 1, cells := 13, slots := 910, locals := 64 * (d + 1) } : Room) s m args below meth c Q 4 D ev_cl A s.heap ex ad0 ev_ty pc f) (K := fun pc k => ev_stop k cX10_init pc none) (t := [ev_r65_0 E, ev_r65_1 E, ev_r65_2 E, ev_r65_3 E, ev_r65_4 E, ev_r65_5 E, ev_r65_6 E, ev_r65_7 E]) ⟨ev_h65_0 hl0 hd6 hE hXs hA S hname, ⟨ev_h65_1 hl0 hd6 hE hXs hA S hname, ⟨ev_h65_2 hl0 hd6 hE hXs hA S hname, ⟨ev_h65_3 hl0 hd6 hE hXs hA S hname, ⟨ev_h65_4 hl0 hd6 hE hXs hA S hname, ⟨ev_h65_5 hl0 hd6 hE hXs hA S hname, ⟨ev_h65_6 hl0 hd6 hE hXs hA S hname, ⟨ev_h65_7 hl0 hd6 hE hXs hA S hname, trivial⟩⟩⟩⟩⟩⟩⟩⟩ (pc := pc) (x := x)
  exact ⟨fun pc f hf => K pc _ hf, fun pc k hk => K pc _ hk⟩
theorem ev_t66 {l : Launch} {D : va_G} {A : Nat → Prop} {ex : Nat → Value} (hl0 : l.stackTraces = false) : ev_TabQ2 l D ev_cl A ex ev_ty (ev_XT A ex) ev_y ev_b ev_nL ev_ret ev_ws ev_cm ev_sm 66 ev_m66 := by
  refine Or.inr ⟨by decide +kernel, ⟨ev_W, Or.inl rfl⟩, fun d E hd6 hE p e R s m args below meth c Q ad0 hx hb hml hname hown hts hXs hA hR => ?_⟩
  subst hR
  have S : CallFix p m c cX11_init 2 s args ev_W RX11 := ⟨hx, hb, hml, hown, fun w hw => hts w (List.mem_cons_of_mem _ hw)⟩
  have K := fun (pc : Nat) (x : ev_I ⊕ Nat) => ev_code_at (P := fun pc f => ev_Sim p l e ({ frames := d + 1, cells := 0, slots := 0, locals := 64 * (d + 1) } : Room) s m args below meth c Q 2 D ev_cl A s.heap ex ad0 ev_ty pc f) (K := fun pc k => ev_stop k cX11_init pc none) (t := [ev_r66_0 E, ev_r66_1 E]) ⟨ev_h66_0 hl0 hd6 hE hXs hA S hname, ⟨ev_h66_1 hl0 hd6 hE hXs hA S hname, trivial⟩⟩ (pc := pc) (x := x)
  exact ⟨fun pc f hf => K pc _ hf, fun pc k hk => K pc _ hk⟩
theorem ev_t67 {l : Launch} {D : va_G} {A : Nat → Prop} {ex : Nat → Value} (hl0 : l.stackTraces = false) : ev_TabHQ l D ev_cl A ex ev_ty (ev_XT A ex) ev_y ev_b ev_nL ev_ret ev_hh ev_ws ev_cm ev_sm ev_xn 67 ev_m67 := by
  refine Or.inr ⟨by decide +kernel, ⟨ev_W, rfl⟩, fun d E EX hd6 hE hEX p e R s m args below meth c Q ad0 hx hb hml htb hown hts hXs hA hR => ?_⟩
  subst hR
  have S : CallFix p m c cL_ask 5 s args ev_W RL := ⟨hx, hb, hml, hown, fun w hw => hts w (List.mem_cons_of_mem _ hw)⟩
  have K := fun (pc : Nat) (x : ev_I ⊕ Nat) => ev_code_at (P := fun pc f => ev_Sim p l e ({ frames := d + 1, cells := 2, slots := 66, locals := 64 * (d + 1) } : Room) s m args below meth c Q 5 D ev_cl A s.heap ex ad0 ev_ty pc f) (K := fun pc k => ev_stop k cL_ask pc (some .int)) (t := [ev_r67_0 E EX, ev_r67_1 E EX]) ⟨ev_h67_0 hl0 hd6 hE hEX htb hXs hA S, ⟨ev_h67_1 hl0 hd6 hE hEX htb hXs hA S, trivial⟩⟩ (pc := pc) (x := x)
  exact ⟨fun pc f hf => K pc _ hf, fun pc k hk => K pc _ hk⟩
theorem ev_t68 {l : Launch} {D : va_G} {A : Nat → Prop} {ex : Nat → Value} (hl0 : l.stackTraces = false) : ev_TabHQ l D ev_cl A ex ev_ty (ev_XT A ex) ev_y ev_b ev_nL ev_ret ev_hh ev_ws ev_cm ev_sm ev_xn 68 ev_m68 := by
  refine Or.inr ⟨by decide +kernel, ⟨ev_W, rfl⟩, fun d E EX hd6 hE hEX p e R s m args below meth c Q ad0 hx hb hml htb hown hts hXs hA hR => ?_⟩
  subst hR
  have S : CallFix p m c cL_input 3 s args ev_W RL := ⟨hx, hb, hml, hown, fun w hw => hts w (List.mem_cons_of_mem _ hw)⟩
  have K := fun (pc : Nat) (x : ev_I ⊕ Nat) => ev_code_at (P := fun pc f => ev_Sim p l e ({ frames := d + 1, cells := 1, slots := 6, locals := 64 * (d + 1) } : Room) s m args below meth c Q 3 D ev_cl A s.heap ex ad0 ev_ty pc f) (K := fun pc k => ev_stop k cL_input pc (some .int)) (t := [ev_r68_0 E EX]) ⟨ev_h68_0 hl0 hd6 hE hEX htb hXs hA S, trivial⟩ (pc := pc) (x := x)
  exact ⟨fun pc f hf => K pc _ hf, fun pc k hk => K pc _ hk⟩
theorem ev_tL {p : Program} {l : Launch} {e : Env} {s : State} {m : MethodId} {args : Array Value} {below : List Frame} {meth : Method} {c : Code} {Q : State → Prop} {D : va_G} {A : Nat → Prop} {ex : Nat → Value} {ad0 : List Nat} {b ln : Nat} {xs : Nat → Int32} {bx : List (Int × Int)} {E : ev_E} (hE : ev_Snd l D ev_cl A ex ev_ty (ev_XT A ex) ev_y ev_ws ev_cm ev_sm 20 E) (hXs : ev_XT A ex s) (hA : ∀ q, s.heap.size ≤ q → A q) (S : CallFix p m c cL_law 7 s args ev_W RL) (hX0 : va_X b ln xs s s.heap) (hbl : b < s.heap.size) (hbA : ¬ A b) (hj : ex 3000 = .ref b) (hlen : ln < 2147483648) (hbx : ∀ (i : Nat) (v : Int × Int), bx[i]? = some v → i < ln ∧ v.1 ≤ (xs i).toInt ∧ (xs i).toInt ≤ v.2) (pc : Nat) (f : ev_I) (h : ev_mL E ln bx pc = some (.inl f)) : ev_Sim p l e room_1 s m args below meth c Q 7 D ev_cl A s.heap ex ad0 ev_ty pc f :=
  ev_code_at (P := fun pc f => ev_Sim p l e room_1 s m args below meth c Q 7 D ev_cl A s.heap ex ad0 ev_ty pc f) (K := fun _ _ => True) (t := [ev_rL_0 E ln bx, ev_rL_1 E ln bx, ev_rL_2 E ln bx, [], [], [], ev_rL_6 E ln bx, ev_rL_7 E ln bx, ev_rL_8 E ln bx, ev_rL_9 E ln bx, ev_rL_10 E ln bx, ev_rL_11 E ln bx, ev_rL_12 E ln bx, ev_rL_13 E ln bx, ev_rL_14 E ln bx, ev_rL_15 E ln bx, ev_rL_16 E ln bx, ev_rL_17 E ln bx, ev_rL_18 E ln bx, ev_rL_19 E ln bx, ev_rL_20 E ln bx, ev_rL_21 E ln bx, ev_rL_22 E ln bx, ev_rL_23 E ln bx, ev_rL_24 E ln bx, ev_rL_25 E ln bx, ev_rL_26 E ln bx, ev_rL_27 E ln bx, ev_rL_28 E ln bx, ev_rL_29 E ln bx, ev_rL_30 E ln bx, ev_rL_31 E ln bx, ev_rL_32 E ln bx, ev_rL_33 E ln bx, ev_rL_34 E ln bx, ev_rL_35 E ln bx, ev_rL_36 E ln bx, ev_rL_37 E ln bx, ev_rL_38 E ln bx]) ⟨ev_hL_0 hE hXs hA S hX0 hbl hbA hj hlen hbx, ⟨ev_hL_1 hE hXs hA S hX0 hbl hbA hj hlen hbx, ⟨ev_hL_2 hE hXs hA S hX0 hbl hbA hj hlen hbx, ⟨ev_pz, ⟨ev_pz, ⟨ev_pz, ⟨ev_hL_6 hE hXs hA S hX0 hbl hbA hj hlen hbx, ⟨ev_hL_7 hE hXs hA S hX0 hbl hbA hj hlen hbx, ⟨ev_hL_8 hE hXs hA S hX0 hbl hbA hj hlen hbx, ⟨ev_hL_9 hE hXs hA S hX0 hbl hbA hj hlen hbx, ⟨ev_hL_10 hE hXs hA S hX0 hbl hbA hj hlen hbx, ⟨ev_hL_11 hE hXs hA S hX0 hbl hbA hj hlen hbx, ⟨ev_hL_12 hE hXs hA S hX0 hbl hbA hj hlen hbx, ⟨ev_hL_13 hE hXs hA S hX0 hbl hbA hj hlen hbx, ⟨ev_hL_14 hE hXs hA S hX0 hbl hbA hj hlen hbx, ⟨ev_hL_15 hE hXs hA S hX0 hbl hbA hj hlen hbx, ⟨ev_hL_16 hE hXs hA S hX0 hbl hbA hj hlen hbx, ⟨ev_hL_17 hE hXs hA S hX0 hbl hbA hj hlen hbx, ⟨ev_hL_18 hE hXs hA S hX0 hbl hbA hj hlen hbx, ⟨ev_hL_19 hE hXs hA S hX0 hbl hbA hj hlen hbx, ⟨ev_hL_20 hE hXs hA S hX0 hbl hbA hj hlen hbx, ⟨ev_hL_21 hE hXs hA S hX0 hbl hbA hj hlen hbx, ⟨ev_hL_22 hE hXs hA S hX0 hbl hbA hj hlen hbx, ⟨ev_hL_23 hE hXs hA S hX0 hbl hbA hj hlen hbx, ⟨ev_hL_24 hE hXs hA S hX0 hbl hbA hj hlen hbx, ⟨ev_hL_25 hE hXs hA S hX0 hbl hbA hj hlen hbx, ⟨ev_hL_26 hE hXs hA S hX0 hbl hbA hj hlen hbx, ⟨ev_hL_27 hE hXs hA S hX0 hbl hbA hj hlen hbx, ⟨ev_hL_28 hE hXs hA S hX0 hbl hbA hj hlen hbx, ⟨ev_hL_29 hE hXs hA S hX0 hbl hbA hj hlen hbx, ⟨ev_hL_30 hE hXs hA S hX0 hbl hbA hj hlen hbx, ⟨ev_hL_31 hE hXs hA S hX0 hbl hbA hj hlen hbx, ⟨ev_hL_32 hE hXs hA S hX0 hbl hbA hj hlen hbx, ⟨ev_hL_33 hE hXs hA S hX0 hbl hbA hj hlen hbx, ⟨ev_hL_34 hE hXs hA S hX0 hbl hbA hj hlen hbx, ⟨ev_hL_35 hE hXs hA S hX0 hbl hbA hj hlen hbx, ⟨ev_hL_36 hE hXs hA S hX0 hbl hbA hj hlen hbx, ⟨ev_hL_37 hE hXs hA S hX0 hbl hbA hj hlen hbx, ⟨ev_hL_38 hE hXs hA S hX0 hbl hbA hj hlen hbx, trivial⟩⟩⟩⟩⟩⟩⟩⟩⟩⟩⟩⟩⟩⟩⟩⟩⟩⟩⟩⟩⟩⟩⟩⟩⟩⟩⟩⟩⟩⟩⟩⟩⟩⟩⟩⟩⟩⟩⟩ h
theorem ev_t70 {l : Launch} {D : va_G} {A : Nat → Prop} {ex : Nat → Value} (hl0 : l.stackTraces = false) : ev_TabHQ l D ev_cl A ex ev_ty (ev_XT A ex) ev_y ev_b ev_nL ev_ret ev_hh ev_ws ev_cm ev_sm ev_xn 70 ev_m70 := by
  refine Or.inr ⟨by decide +kernel, ⟨ev_W, rfl⟩, fun d E EX hd6 hE hEX p e R s m args below meth c Q ad0 hx hb hml htb hown hts hXs hA hR => ?_⟩
  subst hR
  have S : CallFix p m c cL_print 3 s args ev_W RL := ⟨hx, hb, hml, hown, fun w hw => hts w (List.mem_cons_of_mem _ hw)⟩
  have K := fun (pc : Nat) (x : ev_I ⊕ Nat) => ev_code_at (P := fun pc f => ev_Sim p l e ({ frames := d + 1, cells := 1, slots := 6, locals := 64 * (d + 1) } : Room) s m args below meth c Q 3 D ev_cl A s.heap ex ad0 ev_ty pc f) (K := fun pc k => ev_stop k cL_print pc (some .int)) (t := [ev_r70_0 E EX]) ⟨ev_h70_0 hl0 hd6 hE hEX htb hXs hA S, trivial⟩ (pc := pc) (x := x)
  exact ⟨fun pc f hf => K pc _ hf, fun pc k hk => K pc _ hk⟩
theorem ev_t71 {l : Launch} {D : va_G} {A : Nat → Prop} {ex : Nat → Value} (hl0 : l.stackTraces = false) : ev_TabHQ l D ev_cl A ex ev_ty (ev_XT A ex) ev_y ev_b ev_nL ev_ret ev_hh ev_ws ev_cm ev_sm ev_xn 71 ev_m71 := by
  refine Or.inr ⟨by decide +kernel, ⟨ev_W, rfl⟩, fun d E EX hd6 hE hEX p e R s m args below meth c Q ad0 hx hb hml htb hown hts hXs hA hR => ?_⟩
  subst hR
  have S : CallFix p m c cL_put 6 s args ev_W RL := ⟨hx, hb, hml, hown, fun w hw => hts w (List.mem_cons_of_mem _ hw)⟩
  have K := fun (pc : Nat) (x : ev_I ⊕ Nat) => ev_code_at (P := fun pc f => ev_Sim p l e ({ frames := d + 1, cells := 4, slots := 132, locals := 64 * (d + 1) } : Room) s m args below meth c Q 6 D ev_cl A s.heap ex ad0 ev_ty pc f) (K := fun pc k => ev_stop k cL_put pc (some .int)) (t := [ev_r71_0 E EX, ev_r71_1 E EX]) ⟨ev_h71_0 hl0 hd6 hE hEX htb hXs hA S, ⟨ev_h71_1 hl0 hd6 hE hEX htb hXs hA S, trivial⟩⟩ (pc := pc) (x := x)
  exact ⟨fun pc f hf => K pc _ hf, fun pc k hk => K pc _ hk⟩
theorem ev_t72 {l : Launch} {D : va_G} {A : Nat → Prop} {ex : Nat → Value} (hl0 : l.stackTraces = false) : ev_TabHQ l D ev_cl A ex ev_ty (ev_XT A ex) ev_y ev_b ev_nL ev_ret ev_hh ev_ws ev_cm ev_sm ev_xn 72 ev_m72 := by
  refine Or.inr ⟨by decide +kernel, ⟨ev_W, rfl⟩, fun d E EX hd6 hE hEX p e R s m args below meth c Q ad0 hx hb hml htb hown hts hXs hA hR => ?_⟩
  subst hR
  have S : CallFix p m c cL_read 4 s args ev_W RL := ⟨hx, hb, hml, hown, fun w hw => hts w (List.mem_cons_of_mem _ hw)⟩
  have K := fun (pc : Nat) (x : ev_I ⊕ Nat) => ev_code_at (P := fun pc f => ev_Sim p l e ({ frames := d + 1, cells := 8, slots := 190, locals := 64 * (d + 1) } : Room) s m args below meth c Q 4 D ev_cl A s.heap ex ad0 ev_ty pc f) (K := fun pc k => ev_stop k cL_read pc (some .int)) (t := [ev_r72_0 E EX, ev_r72_1 E EX]) ⟨ev_h72_0 hl0 hd6 hE hEX htb hXs hA S, ⟨ev_h72_1 hl0 hd6 hE hEX htb hXs hA S, trivial⟩⟩ (pc := pc) (x := x)
  exact ⟨fun pc f hf => K pc _ hf, fun pc k hk => K pc _ hk⟩
theorem ev_t73 {l : Launch} {D : va_G} {A : Nat → Prop} {ex : Nat → Value} (hl0 : l.stackTraces = false) : ev_TabHQ l D ev_cl A ex ev_ty (ev_XT A ex) ev_y ev_b ev_nL ev_ret ev_hh ev_ws ev_cm ev_sm ev_xn 73 ev_m73 := by
  refine Or.inr ⟨by decide +kernel, ⟨ev_W, rfl⟩, fun d E EX hd6 hE hEX p e R s m args below meth c Q ad0 hx hb hml htb hown hts hXs hA hR => ?_⟩
  subst hR
  have S : CallFix p m c cL_run 4 s args ev_W RL := ⟨hx, hb, hml, hown, fun w hw => hts w (List.mem_cons_of_mem _ hw)⟩
  have K := fun (pc : Nat) (x : ev_I ⊕ Nat) => ev_code_at (P := fun pc f => ev_Sim p l e ({ frames := d + 1, cells := 1, slots := 6, locals := 64 * (d + 1) } : Room) s m args below meth c Q 4 D ev_cl A s.heap ex ad0 ev_ty pc f) (K := fun pc k => ev_stop k cL_run pc (some .int)) (t := [ev_r73_0 E EX]) ⟨ev_h73_0 hl0 hd6 hE hEX htb hXs hA S, trivial⟩ (pc := pc) (x := x)
  exact ⟨fun pc f hf => K pc _ hf, fun pc k hk => K pc _ hk⟩
theorem ev_t74 {l : Launch} {D : va_G} {A : Nat → Prop} {ex : Nat → Value} (hl0 : l.stackTraces = false) : ev_TabQ2 l D ev_cl A ex ev_ty (ev_XT A ex) ev_y ev_b ev_nL ev_ret ev_ws ev_cm ev_sm 74 ev_m74 := by
  refine Or.inr ⟨by decide +kernel, ⟨ev_W, Or.inl rfl⟩, fun d E hd6 hE p e R s m args below meth c Q ad0 hx hb hml hname hown hts hXs hA hR => ?_⟩
  subst hR
  have S : CallFix p m c cX28_init 1 s args ev_W RX28 := ⟨hx, hb, hml, hown, fun w hw => hts w (List.mem_cons_of_mem _ hw)⟩
  have K := fun (pc : Nat) (x : ev_I ⊕ Nat) => ev_code_at (P := fun pc f => ev_Sim p l e ({ frames := d + 1, cells := 72, slots := 3822, locals := 64 * (d + 1) } : Room) s m args below meth c Q 1 D ev_cl A s.heap ex ad0 ev_ty pc f) (K := fun pc k => ev_stop k cX28_init pc none) (t := [ev_r74_0 E, ev_r74_1 E, ev_r74_2 E, ev_r74_3 E, ev_r74_4 E, ev_r74_5 E, ev_r74_6 E, ev_r74_7 E, ev_r74_8 E, ev_r74_9 E, ev_r74_10 E, ev_r74_11 E, ev_r74_12 E, ev_r74_13 E, ev_r74_14 E, ev_r74_15 E, ev_r74_16 E, ev_r74_17 E, ev_r74_18 E, ev_r74_19 E, ev_r74_20 E, ev_r74_21 E, ev_r74_22 E, ev_r74_23 E, ev_r74_24 E, ev_r74_25 E, ev_r74_26 E, ev_r74_27 E, ev_r74_28 E, ev_r74_29 E, ev_r74_30 E, ev_r74_31 E, ev_r74_32 E, ev_r74_33 E, ev_r74_34 E, ev_r74_35 E, ev_r74_36 E]) ⟨ev_h74_0 hl0 hd6 hE hXs hA S hname, ⟨ev_h74_1 hl0 hd6 hE hXs hA S hname, ⟨ev_h74_2 hl0 hd6 hE hXs hA S hname, ⟨ev_h74_3 hl0 hd6 hE hXs hA S hname, ⟨ev_h74_4 hl0 hd6 hE hXs hA S hname, ⟨ev_h74_5 hl0 hd6 hE hXs hA S hname, ⟨ev_h74_6 hl0 hd6 hE hXs hA S hname, ⟨ev_h74_7 hl0 hd6 hE hXs hA S hname, ⟨ev_h74_8 hl0 hd6 hE hXs hA S hname, ⟨ev_h74_9 hl0 hd6 hE hXs hA S hname, ⟨ev_h74_10 hl0 hd6 hE hXs hA S hname, ⟨ev_h74_11 hl0 hd6 hE hXs hA S hname, ⟨ev_h74_12 hl0 hd6 hE hXs hA S hname, ⟨ev_h74_13 hl0 hd6 hE hXs hA S hname, ⟨ev_h74_14 hl0 hd6 hE hXs hA S hname, ⟨ev_h74_15 hl0 hd6 hE hXs hA S hname, ⟨ev_h74_16 hl0 hd6 hE hXs hA S hname, ⟨ev_h74_17 hl0 hd6 hE hXs hA S hname, ⟨ev_h74_18 hl0 hd6 hE hXs hA S hname, ⟨ev_h74_19 hl0 hd6 hE hXs hA S hname, ⟨ev_h74_20 hl0 hd6 hE hXs hA S hname, ⟨ev_h74_21 hl0 hd6 hE hXs hA S hname, ⟨ev_h74_22 hl0 hd6 hE hXs hA S hname, ⟨ev_h74_23 hl0 hd6 hE hXs hA S hname, ⟨ev_h74_24 hl0 hd6 hE hXs hA S hname, ⟨ev_h74_25 hl0 hd6 hE hXs hA S hname, ⟨ev_h74_26 hl0 hd6 hE hXs hA S hname, ⟨ev_h74_27 hl0 hd6 hE hXs hA S hname, ⟨ev_h74_28 hl0 hd6 hE hXs hA S hname, ⟨ev_h74_29 hl0 hd6 hE hXs hA S hname, ⟨ev_h74_30 hl0 hd6 hE hXs hA S hname, ⟨ev_h74_31 hl0 hd6 hE hXs hA S hname, ⟨ev_h74_32 hl0 hd6 hE hXs hA S hname, ⟨ev_h74_33 hl0 hd6 hE hXs hA S hname, ⟨ev_h74_34 hl0 hd6 hE hXs hA S hname, ⟨ev_h74_35 hl0 hd6 hE hXs hA S hname, ⟨ev_h74_36 hl0 hd6 hE hXs hA S hname, trivial⟩⟩⟩⟩⟩⟩⟩⟩⟩⟩⟩⟩⟩⟩⟩⟩⟩⟩⟩⟩⟩⟩⟩⟩⟩⟩⟩⟩⟩⟩⟩⟩⟩⟩⟩⟩⟩ (pc := pc) (x := x)
  exact ⟨fun pc f hf => K pc _ hf, fun pc k hk => K pc _ hk⟩
theorem ev_t75 {l : Launch} {D : va_G} {A : Nat → Prop} {ex : Nat → Value} (hl0 : l.stackTraces = false) : ev_TabQ2 l D ev_cl A ex ev_ty (ev_XT A ex) ev_y ev_b ev_nL ev_ret ev_ws ev_cm ev_sm 75 ev_m75 := by
  refine Or.inr ⟨by decide +kernel, ⟨ev_W, Or.inl rfl⟩, fun d E hd6 hE p e R s m args below meth c Q ad0 hx hb hml hname hown hts hXs hA hR => ?_⟩
  subst hR
  have S : CallFix p m c cX28_answers 6 s args ev_W RX28 := ⟨hx, hb, hml, hown, fun w hw => hts w (List.mem_cons_of_mem _ hw)⟩
  have K := fun (pc : Nat) (x : ev_I ⊕ Nat) => ev_code_at (P := fun pc f => ev_Sim p l e ({ frames := d + 1, cells := 0, slots := 0, locals := 64 * (d + 1) } : Room) s m args below meth c Q 6 D ev_cl A s.heap ex ad0 ev_ty pc f) (K := fun pc k => ev_stop k cX28_answers pc (some .boolean)) (t := [ev_r75_0 E, ev_r75_1 E, ev_r75_2 E, ev_r75_3 E, [], [], [], [], [], ev_r75_9 E, ev_r75_10 E, ev_r75_11 E, ev_r75_12 E]) ⟨ev_h75_0 hl0 hd6 hE hXs hA S hname, ⟨ev_h75_1 hl0 hd6 hE hXs hA S hname, ⟨ev_h75_2 hl0 hd6 hE hXs hA S hname, ⟨ev_h75_3 hl0 hd6 hE hXs hA S hname, ⟨ev_pz, ⟨ev_pz, ⟨ev_pz, ⟨ev_pz, ⟨ev_pz, ⟨ev_h75_9 hl0 hd6 hE hXs hA S hname, ⟨ev_h75_10 hl0 hd6 hE hXs hA S hname, ⟨ev_h75_11 hl0 hd6 hE hXs hA S hname, ⟨ev_h75_12 hl0 hd6 hE hXs hA S hname, trivial⟩⟩⟩⟩⟩⟩⟩⟩⟩⟩⟩⟩⟩ (pc := pc) (x := x)
  exact ⟨fun pc f hf => K pc _ hf, fun pc k hk => K pc _ hk⟩
theorem ev_t76 {l : Launch} {D : va_G} {A : Nat → Prop} {ex : Nat → Value} (hl0 : l.stackTraces = false) : ev_TabQ2 l D ev_cl A ex ev_ty (ev_XT A ex) ev_y ev_b ev_nL ev_ret ev_ws ev_cm ev_sm 76 ev_m76 := by
  refine Or.inr ⟨by decide +kernel, ⟨ev_W, Or.inl rfl⟩, fun d E hd6 hE p e R s m args below meth c Q ad0 hx hb hml hname hown hts hXs hA hR => ?_⟩
  subst hR
  have S : CallFix p m c cX28_ask 4 s args ev_W RX28 := ⟨hx, hb, hml, hown, fun w hw => hts w (List.mem_cons_of_mem _ hw)⟩
  have K := fun (pc : Nat) (x : ev_I ⊕ Nat) => ev_code_at (P := fun pc f => ev_Sim p l e ({ frames := d + 1, cells := 1, slots := 0, locals := 64 * (d + 1) } : Room) s m args below meth c Q 4 D ev_cl A s.heap ex ad0 ev_ty pc f) (K := fun pc k => ev_stop k cX28_ask pc (some .int)) (t := [ev_r76_0 E, ev_r76_1 E, ev_r76_2 E, ev_r76_3 E, ev_r76_4 E]) ⟨ev_h76_0 hl0 hd6 hE hXs hA S hname, ⟨ev_h76_1 hl0 hd6 hE hXs hA S hname, ⟨ev_h76_2 hl0 hd6 hE hXs hA S hname, ⟨ev_h76_3 hl0 hd6 hE hXs hA S hname, ⟨ev_h76_4 hl0 hd6 hE hXs hA S hname, trivial⟩⟩⟩⟩⟩ (pc := pc) (x := x)
  exact ⟨fun pc f hf => K pc _ hf, fun pc k hk => K pc _ hk⟩
theorem ev_t77 {l : Launch} {D : va_G} {A : Nat → Prop} {ex : Nat → Value} (hl0 : l.stackTraces = false) : ev_TabQ2 l D ev_cl A ex ev_ty (ev_XT A ex) ev_y ev_b ev_nL ev_ret ev_ws ev_cm ev_sm 77 ev_m77 := by
  refine Or.inr ⟨by decide +kernel, ⟨ev_W, Or.inl rfl⟩, fun d E hd6 hE p e R s m args below meth c Q ad0 hx hb hml hname hown hts hXs hA hR => ?_⟩
  subst hR
  have S : CallFix p m c cX28_begin0 1 s args ev_W RX28 := ⟨hx, hb, hml, hown, fun w hw => hts w (List.mem_cons_of_mem _ hw)⟩
  have K := fun (pc : Nat) (x : ev_I ⊕ Nat) => ev_code_at (P := fun pc f => ev_Sim p l e ({ frames := d + 1, cells := 6, slots := 30, locals := 64 * (d + 1) } : Room) s m args below meth c Q 1 D ev_cl A s.heap ex ad0 ev_ty pc f) (K := fun pc k => ev_stop k cX28_begin0 pc none) (t := [ev_r77_0 E, ev_r77_1 E, ev_r77_2 E, ev_r77_3 E, ev_r77_4 E, ev_r77_5 E, ev_r77_6 E, ev_r77_7 E, ev_r77_8 E, ev_r77_9 E]) ⟨ev_h77_0 hl0 hd6 hE hXs hA S hname, ⟨ev_h77_1 hl0 hd6 hE hXs hA S hname, ⟨ev_h77_2 hl0 hd6 hE hXs hA S hname, ⟨ev_h77_3 hl0 hd6 hE hXs hA S hname, ⟨ev_h77_4 hl0 hd6 hE hXs hA S hname, ⟨ev_h77_5 hl0 hd6 hE hXs hA S hname, ⟨ev_h77_6 hl0 hd6 hE hXs hA S hname, ⟨ev_h77_7 hl0 hd6 hE hXs hA S hname, ⟨ev_h77_8 hl0 hd6 hE hXs hA S hname, ⟨ev_h77_9 hl0 hd6 hE hXs hA S hname, trivial⟩⟩⟩⟩⟩⟩⟩⟩⟩⟩ (pc := pc) (x := x)
  exact ⟨fun pc f hf => K pc _ hf, fun pc k hk => K pc _ hk⟩
theorem ev_t78 {l : Launch} {D : va_G} {A : Nat → Prop} {ex : Nat → Value} (hl0 : l.stackTraces = false) : ev_TabQ2 l D ev_cl A ex ev_ty (ev_XT A ex) ev_y ev_b ev_nL ev_ret ev_ws ev_cm ev_sm 78 ev_m78 := by
  refine Or.inr ⟨by decide +kernel, ⟨ev_W, Or.inl rfl⟩, fun d E hd6 hE p e R s m args below meth c Q ad0 hx hb hml hname hown hts hXs hA hR => ?_⟩
  subst hR
  have S : CallFix p m c cX28_byteAt 4 s args ev_W RX28 := ⟨hx, hb, hml, hown, fun w hw => hts w (List.mem_cons_of_mem _ hw)⟩
  have K := fun (pc : Nat) (x : ev_I ⊕ Nat) => ev_code_at (P := fun pc f => ev_Sim p l e ({ frames := d + 1, cells := 0, slots := 0, locals := 64 * (d + 1) } : Room) s m args below meth c Q 4 D ev_cl A s.heap ex ad0 ev_ty pc f) (K := fun pc k => ev_stop k cX28_byteAt pc (some .int)) (t := [ev_r78_0 E, ev_r78_1 E, ev_r78_2 E, ev_r78_3 E, ev_r78_4 E, ev_r78_5 E, ev_r78_6 E]) ⟨ev_h78_0 hl0 hd6 hE hXs hA S hname, ⟨ev_h78_1 hl0 hd6 hE hXs hA S hname, ⟨ev_h78_2 hl0 hd6 hE hXs hA S hname, ⟨ev_h78_3 hl0 hd6 hE hXs hA S hname, ⟨ev_h78_4 hl0 hd6 hE hXs hA S hname, ⟨ev_h78_5 hl0 hd6 hE hXs hA S hname, ⟨ev_h78_6 hl0 hd6 hE hXs hA S hname, trivial⟩⟩⟩⟩⟩⟩⟩ (pc := pc) (x := x)
  exact ⟨fun pc f hf => K pc _ hf, fun pc k hk => K pc _ hk⟩
theorem ev_t79 {l : Launch} {D : va_G} {A : Nat → Prop} {ex : Nat → Value} (hl0 : l.stackTraces = false) : ev_TabQ2 l D ev_cl A ex ev_ty (ev_XT A ex) ev_y ev_b ev_nL ev_ret ev_ws ev_cm ev_sm 79 ev_m79 := by
  refine Or.inr ⟨by decide +kernel, ⟨ev_W, Or.inl rfl⟩, fun d E hd6 hE p e R s m args below meth c Q ad0 hx hb hml hname hown hts hXs hA hR => ?_⟩
  subst hR
  have S : CallFix p m c cX28_clear 2 s args ev_W RX28 := ⟨hx, hb, hml, hown, fun w hw => hts w (List.mem_cons_of_mem _ hw)⟩
  have K := fun (pc : Nat) (x : ev_I ⊕ Nat) => ev_code_at (P := fun pc f => ev_Sim p l e ({ frames := d + 1, cells := 0, slots := 0, locals := 64 * (d + 1) } : Room) s m args below meth c Q 2 D ev_cl A s.heap ex ad0 ev_ty pc f) (K := fun pc k => ev_stop k cX28_clear pc (some .int)) (t := [ev_r79_0 E, ev_r79_1 E, ev_r79_2 E]) ⟨ev_h79_0 hl0 hd6 hE hXs hA S hname, ⟨ev_h79_1 hl0 hd6 hE hXs hA S hname, ⟨ev_h79_2 hl0 hd6 hE hXs hA S hname, trivial⟩⟩⟩ (pc := pc) (x := x)
  exact ⟨fun pc f hf => K pc _ hf, fun pc k hk => K pc _ hk⟩
theorem ev_t80 {l : Launch} {D : va_G} {A : Nat → Prop} {ex : Nat → Value} (hl0 : l.stackTraces = false) : ev_TabQ2 l D ev_cl A ex ev_ty (ev_XT A ex) ev_y ev_b ev_nL ev_ret ev_ws ev_cm ev_sm 80 ev_m80 := by
  refine Or.inr ⟨by decide +kernel, ⟨ev_W, Or.inl rfl⟩, fun d E hd6 hE p e R s m args below meth c Q ad0 hx hb hml hname hown hts hXs hA hR => ?_⟩
  subst hR
  have S : CallFix p m c cX28_count 2 s args ev_W RX28 := ⟨hx, hb, hml, hown, fun w hw => hts w (List.mem_cons_of_mem _ hw)⟩
  have K := fun (pc : Nat) (x : ev_I ⊕ Nat) => ev_code_at (P := fun pc f => ev_Sim p l e ({ frames := d + 1, cells := 0, slots := 0, locals := 64 * (d + 1) } : Room) s m args below meth c Q 2 D ev_cl A s.heap ex ad0 ev_ty pc f) (K := fun pc k => ev_stop k cX28_count pc (some .int)) (t := [ev_r80_0 E, [], [], [], [], [], ev_r80_6 E, ev_r80_7 E, ev_r80_8 E, ev_r80_9 E, ev_r80_10 E, ev_r80_11 E, ev_r80_12 E, ev_r80_13 E, ev_r80_14 E, ev_r80_15 E, ev_r80_16 E]) ⟨ev_h80_0 hl0 hd6 hE hXs hA S hname, ⟨ev_pz, ⟨ev_pz, ⟨ev_pz, ⟨ev_pz, ⟨ev_pz, ⟨ev_h80_6 hl0 hd6 hE hXs hA S hname, ⟨ev_h80_7 hl0 hd6 hE hXs hA S hname, ⟨ev_h80_8 hl0 hd6 hE hXs hA S hname, ⟨ev_h80_9 hl0 hd6 hE hXs hA S hname, ⟨ev_h80_10 hl0 hd6 hE hXs hA S hname, ⟨ev_h80_11 hl0 hd6 hE hXs hA S hname, ⟨ev_h80_12 hl0 hd6 hE hXs hA S hname, ⟨ev_h80_13 hl0 hd6 hE hXs hA S hname, ⟨ev_h80_14 hl0 hd6 hE hXs hA S hname, ⟨ev_h80_15 hl0 hd6 hE hXs hA S hname, ⟨ev_h80_16 hl0 hd6 hE hXs hA S hname, trivial⟩⟩⟩⟩⟩⟩⟩⟩⟩⟩⟩⟩⟩⟩⟩⟩⟩ (pc := pc) (x := x)
  exact ⟨fun pc f hf => K pc _ hf, fun pc k hk => K pc _ hk⟩
theorem ev_t81 {l : Launch} {D : va_G} {A : Nat → Prop} {ex : Nat → Value} (hl0 : l.stackTraces = false) : ev_TabQ2 l D ev_cl A ex ev_ty (ev_XT A ex) ev_y ev_b ev_nL ev_ret ev_ws ev_cm ev_sm 81 ev_m81 := by
  refine Or.inr ⟨by decide +kernel, ⟨ev_W, Or.inl rfl⟩, fun d E hd6 hE p e R s m args below meth c Q ad0 hx hb hml hname hown hts hXs hA hR => ?_⟩
  subst hR
  have S : CallFix p m c cX28_fails 3 s args ev_W RX28 := ⟨hx, hb, hml, hown, fun w hw => hts w (List.mem_cons_of_mem _ hw)⟩
  have K := fun (pc : Nat) (x : ev_I ⊕ Nat) => ev_code_at (P := fun pc f => ev_Sim p l e ({ frames := d + 1, cells := 0, slots := 0, locals := 64 * (d + 1) } : Room) s m args below meth c Q 3 D ev_cl A s.heap ex ad0 ev_ty pc f) (K := fun pc k => ev_stop k cX28_fails pc (some .boolean)) (t := [ev_r81_0 E, ev_r81_1 E, ev_r81_2 E]) ⟨ev_h81_0 hl0 hd6 hE hXs hA S hname, ⟨ev_h81_1 hl0 hd6 hE hXs hA S hname, ⟨ev_h81_2 hl0 hd6 hE hXs hA S hname, trivial⟩⟩⟩ (pc := pc) (x := x)
  exact ⟨fun pc f hf => K pc _ hf, fun pc k hk => K pc _ hk⟩
theorem ev_t82 {l : Launch} {D : va_G} {A : Nat → Prop} {ex : Nat → Value} (hl0 : l.stackTraces = false) : ev_TabQ2 l D ev_cl A ex ev_ty (ev_XT A ex) ev_y ev_b ev_nL ev_ret ev_ws ev_cm ev_sm 82 ev_m82 := by
  refine Or.inr ⟨by decide +kernel, ⟨ev_W, Or.inl rfl⟩, fun d E hd6 hE p e R s m args below meth c Q ad0 hx hb hml hname hown hts hXs hA hR => ?_⟩
  subst hR
  have S : CallFix p m c cX28_feed 6 s args ev_W RX28 := ⟨hx, hb, hml, hown, fun w hw => hts w (List.mem_cons_of_mem _ hw)⟩
  have K := fun (pc : Nat) (x : ev_I ⊕ Nat) => ev_code_at (P := fun pc f => ev_Sim p l e ({ frames := d + 1, cells := 20, slots := 640, locals := 64 * (d + 1) } : Room) s m args below meth c Q 6 D ev_cl A s.heap ex ad0 ev_ty pc f) (K := fun pc k => ev_stop k cX28_feed pc (some .int)) (t := [ev_r82_0 E, ev_r82_1 E, ev_r82_2 E, ev_r82_3 E]) ⟨ev_h82_0 hl0 hd6 hE hXs hA S hname, ⟨ev_h82_1 hl0 hd6 hE hXs hA S hname, ⟨ev_h82_2 hl0 hd6 hE hXs hA S hname, ⟨ev_h82_3 hl0 hd6 hE hXs hA S hname, trivial⟩⟩⟩⟩ (pc := pc) (x := x)
  exact ⟨fun pc f hf => K pc _ hf, fun pc k hk => K pc _ hk⟩
theorem ev_t83 {l : Launch} {D : va_G} {A : Nat → Prop} {ex : Nat → Value} (hl0 : l.stackTraces = false) : ev_TabQ2 l D ev_cl A ex ev_ty (ev_XT A ex) ev_y ev_b ev_nL ev_ret ev_ws ev_cm ev_sm 83 ev_m83 := by
  refine Or.inr ⟨by decide +kernel, ⟨ev_W, Or.inl rfl⟩, fun d E hd6 hE p e R s m args below meth c Q ad0 hx hb hml hname hown hts hXs hA hR => ?_⟩
  subst hR
  have S : CallFix p m c cX28_five 3 s args ev_W RX28 := ⟨hx, hb, hml, hown, fun w hw => hts w (List.mem_cons_of_mem _ hw)⟩
  have K := fun (pc : Nat) (x : ev_I ⊕ Nat) => ev_code_at (P := fun pc f => ev_Sim p l e ({ frames := d + 1, cells := 4, slots := 128, locals := 64 * (d + 1) } : Room) s m args below meth c Q 3 D ev_cl A s.heap ex ad0 ev_ty pc f) (K := fun pc k => ev_stop k cX28_five pc none) (t := [ev_r83_0 E, ev_r83_1 E]) ⟨ev_h83_0 hl0 hd6 hE hXs hA S hname, ⟨ev_h83_1 hl0 hd6 hE hXs hA S hname, trivial⟩⟩ (pc := pc) (x := x)
  exact ⟨fun pc f hf => K pc _ hf, fun pc k hk => K pc _ hk⟩
theorem ev_t84 {l : Launch} {D : va_G} {A : Nat → Prop} {ex : Nat → Value} (hl0 : l.stackTraces = false) : ev_TabQ2 l D ev_cl A ex ev_ty (ev_XT A ex) ev_y ev_b ev_nL ev_ret ev_ws ev_cm ev_sm 84 ev_m84 := by
  refine Or.inr ⟨by decide +kernel, ⟨ev_W, Or.inl rfl⟩, fun d E hd6 hE p e R s m args below meth c Q ad0 hx hb hml hname hown hts hXs hA hR => ?_⟩
  subst hR
  have S : CallFix p m c cX28_has_ 5 s args ev_W RX28 := ⟨hx, hb, hml, hown, fun w hw => hts w (List.mem_cons_of_mem _ hw)⟩
  have K := fun (pc : Nat) (x : ev_I ⊕ Nat) => ev_code_at (P := fun pc f => ev_Sim p l e ({ frames := d + 1, cells := 0, slots := 0, locals := 64 * (d + 1) } : Room) s m args below meth c Q 5 D ev_cl A s.heap ex ad0 ev_ty pc f) (K := fun pc k => ev_stop k cX28_has_ pc (some .boolean)) (t := [ev_r84_0 E, ev_r84_1 E, ev_r84_2 E, ev_r84_3 E]) ⟨ev_h84_0 hl0 hd6 hE hXs hA S hname, ⟨ev_h84_1 hl0 hd6 hE hXs hA S hname, ⟨ev_h84_2 hl0 hd6 hE hXs hA S hname, ⟨ev_h84_3 hl0 hd6 hE hXs hA S hname, trivial⟩⟩⟩⟩ (pc := pc) (x := x)
  exact ⟨fun pc f hf => K pc _ hf, fun pc k hk => K pc _ hk⟩
theorem ev_t85 {l : Launch} {D : va_G} {A : Nat → Prop} {ex : Nat → Value} (hl0 : l.stackTraces = false) : ev_TabQ2 l D ev_cl A ex ev_ty (ev_XT A ex) ev_y ev_b ev_nL ev_ret ev_ws ev_cm ev_sm 85 ev_m85 := by
  refine Or.inr ⟨by decide +kernel, ⟨ev_W, Or.inl rfl⟩, fun d E hd6 hE p e R s m args below meth c Q ad0 hx hb hml hname hown hts hXs hA hR => ?_⟩
  subst hR
  have S : CallFix p m c cX28_input 4 s args ev_W RX28 := ⟨hx, hb, hml, hown, fun w hw => hts w (List.mem_cons_of_mem _ hw)⟩
  have K := fun (pc : Nat) (x : ev_I ⊕ Nat) => ev_code_at (P := fun pc f => ev_Sim p l e ({ frames := d + 1, cells := 4, slots := 23, locals := 64 * (d + 1) } : Room) s m args below meth c Q 4 D ev_cl A s.heap ex ad0 ev_ty pc f) (K := fun pc k => ev_stop k cX28_input pc none) (t := [ev_r85_0 E, ev_r85_1 E, ev_r85_2 E, ev_r85_3 E]) ⟨ev_h85_0 hl0 hd6 hE hXs hA S hname, ⟨ev_h85_1 hl0 hd6 hE hXs hA S hname, ⟨ev_h85_2 hl0 hd6 hE hXs hA S hname, ⟨ev_h85_3 hl0 hd6 hE hXs hA S hname, trivial⟩⟩⟩⟩ (pc := pc) (x := x)
  exact ⟨fun pc f hf => K pc _ hf, fun pc k hk => K pc _ hk⟩
theorem ev_t86 {l : Launch} {D : va_G} {A : Nat → Prop} {ex : Nat → Value} (hl0 : l.stackTraces = false) : ev_TabQ2 l D ev_cl A ex ev_ty (ev_XT A ex) ev_y ev_b ev_nL ev_ret ev_ws ev_cm ev_sm 86 ev_m86 := by
  refine Or.inr ⟨by decide +kernel, ⟨ev_W, Or.inl rfl⟩, fun d E hd6 hE p e R s m args below meth c Q ad0 hx hb hml hname hown hts hXs hA hR => ?_⟩
  subst hR
  have S : CallFix p m c cX28_isName 1 s args ev_W RX28 := ⟨hx, hb, hml, hown, fun w hw => hts w (List.mem_cons_of_mem _ hw)⟩
  have K := fun (pc : Nat) (x : ev_I ⊕ Nat) => ev_code_at (P := fun pc f => ev_Sim p l e ({ frames := d + 1, cells := 0, slots := 0, locals := 64 * (d + 1) } : Room) s m args below meth c Q 1 D ev_cl A s.heap ex ad0 ev_ty pc f) (K := fun pc k => ev_stop k cX28_isName pc (some .boolean)) (t := [ev_r86_0 E, ev_r86_1 E]) ⟨ev_h86_0 hl0 hd6 hE hXs hA S hname, ⟨ev_h86_1 hl0 hd6 hE hXs hA S hname, trivial⟩⟩ (pc := pc) (x := x)
  exact ⟨fun pc f hf => K pc _ hf, fun pc k hk => K pc _ hk⟩
theorem ev_t87 {l : Launch} {D : va_G} {A : Nat → Prop} {ex : Nat → Value} (hl0 : l.stackTraces = false) : ev_TabQ2 l D ev_cl A ex ev_ty (ev_XT A ex) ev_y ev_b ev_nL ev_ret ev_ws ev_cm ev_sm 87 ev_m87 := by
  refine Or.inr ⟨by decide +kernel, ⟨ev_W, Or.inl rfl⟩, fun d E hd6 hE p e R s m args below meth c Q ad0 hx hb hml hname hown hts hXs hA hR => ?_⟩
  subst hR
  have S : CallFix p m c cX28_isText 3 s args ev_W RX28 := ⟨hx, hb, hml, hown, fun w hw => hts w (List.mem_cons_of_mem _ hw)⟩
  have K := fun (pc : Nat) (x : ev_I ⊕ Nat) => ev_code_at (P := fun pc f => ev_Sim p l e ({ frames := d + 1, cells := 0, slots := 0, locals := 64 * (d + 1) } : Room) s m args below meth c Q 3 D ev_cl A s.heap ex ad0 ev_ty pc f) (K := fun pc k => ev_stop k cX28_isText pc (some .boolean)) (t := [ev_r87_0 E, [], ev_r87_2 E]) ⟨ev_h87_0 hl0 hd6 hE hXs hA S hname, ⟨ev_pz, ⟨ev_h87_2 hl0 hd6 hE hXs hA S hname, trivial⟩⟩⟩ (pc := pc) (x := x)
  exact ⟨fun pc f hf => K pc _ hf, fun pc k hk => K pc _ hk⟩
theorem ev_t88 {l : Launch} {D : va_G} {A : Nat → Prop} {ex : Nat → Value} (hl0 : l.stackTraces = false) : ev_TabQ2 l D ev_cl A ex ev_ty (ev_XT A ex) ev_y ev_b ev_nL ev_ret ev_ws ev_cm ev_sm 88 ev_m88 := by
  refine Or.inr ⟨by decide +kernel, ⟨ev_W, Or.inl rfl⟩, fun d E hd6 hE p e R s m args below meth c Q ad0 hx hb hml hname hown hts hXs hA hR => ?_⟩
  subst hR
  have S : CallFix p m c cX28_nameEnd 3 s args ev_W RX28 := ⟨hx, hb, hml, hown, fun w hw => hts w (List.mem_cons_of_mem _ hw)⟩
  have K := fun (pc : Nat) (x : ev_I ⊕ Nat) => ev_code_at (P := fun pc f => ev_Sim p l e ({ frames := d + 1, cells := 0, slots := 0, locals := 64 * (d + 1) } : Room) s m args below meth c Q 3 D ev_cl A s.heap ex ad0 ev_ty pc f) (K := fun pc k => ev_stop k cX28_nameEnd pc (some .int)) (t := [ev_r88_0 E, ev_r88_1 E]) ⟨ev_h88_0 hl0 hd6 hE hXs hA S hname, ⟨ev_h88_1 hl0 hd6 hE hXs hA S hname, trivial⟩⟩ (pc := pc) (x := x)
  exact ⟨fun pc f hf => K pc _ hf, fun pc k hk => K pc _ hk⟩
theorem ev_t89 {l : Launch} {D : va_G} {A : Nat → Prop} {ex : Nat → Value} (hl0 : l.stackTraces = false) : ev_TabQ2 l D ev_cl A ex ev_ty (ev_XT A ex) ev_y ev_b ev_nL ev_ret ev_ws ev_cm ev_sm 89 ev_m89 := by
  refine Or.inr ⟨by decide +kernel, ⟨ev_W, Or.inl rfl⟩, fun d E hd6 hE p e R s m args below meth c Q ad0 hx hb hml hname hown hts hXs hA hR => ?_⟩
  subst hR
  have S : CallFix p m c cX28_opened 5 s args ev_W RX28 := ⟨hx, hb, hml, hown, fun w hw => hts w (List.mem_cons_of_mem _ hw)⟩
  have K := fun (pc : Nat) (x : ev_I ⊕ Nat) => ev_code_at (P := fun pc f => ev_Sim p l e ({ frames := d + 1, cells := 1, slots := 5, locals := 64 * (d + 1) } : Room) s m args below meth c Q 5 D ev_cl A s.heap ex ad0 ev_ty pc f) (K := fun pc k => ev_stop k cX28_opened pc (some (.object "TextShellModel$Open"))) (t := [ev_r89_0 E, ev_r89_1 E, ev_r89_2 E]) ⟨ev_h89_0 hl0 hd6 hE hXs hA S hname, ⟨ev_h89_1 hl0 hd6 hE hXs hA S hname, ⟨ev_h89_2 hl0 hd6 hE hXs hA S hname, trivial⟩⟩⟩ (pc := pc) (x := x)
  exact ⟨fun pc f hf => K pc _ hf, fun pc k hk => K pc _ hk⟩
theorem ev_t90 {l : Launch} {D : va_G} {A : Nat → Prop} {ex : Nat → Value} (hl0 : l.stackTraces = false) : ev_TabQ2 l D ev_cl A ex ev_ty (ev_XT A ex) ev_y ev_b ev_nL ev_ret ev_ws ev_cm ev_sm 90 ev_m90 := by
  refine Or.inr ⟨by decide +kernel, ⟨ev_W, Or.inl rfl⟩, fun d E hd6 hE p e R s m args below meth c Q ad0 hx hb hml hname hown hts hXs hA hR => ?_⟩
  subst hR
  have S : CallFix p m c cX28_part 5 s args ev_W RX28 := ⟨hx, hb, hml, hown, fun w hw => hts w (List.mem_cons_of_mem _ hw)⟩
  have K := fun (pc : Nat) (x : ev_I ⊕ Nat) => ev_code_at (P := fun pc f => ev_Sim p l e ({ frames := d + 1, cells := 1, slots := 0, locals := 64 * (d + 1) } : Room) s m args below meth c Q 5 D ev_cl A s.heap ex ad0 ev_ty pc f) (K := fun pc k => ev_stop k cX28_part pc (some (.array .byte))) (t := [ev_r90_0 E, ev_r90_1 E, ev_r90_2 E]) ⟨ev_h90_0 hl0 hd6 hE hXs hA S hname, ⟨ev_h90_1 hl0 hd6 hE hXs hA S hname, ⟨ev_h90_2 hl0 hd6 hE hXs hA S hname, trivial⟩⟩⟩ (pc := pc) (x := x)
  exact ⟨fun pc f hf => K pc _ hf, fun pc k hk => K pc _ hk⟩
theorem ev_t91 {l : Launch} {D : va_G} {A : Nat → Prop} {ex : Nat → Value} (hl0 : l.stackTraces = false) : ev_TabQ2 l D ev_cl A ex ev_ty (ev_XT A ex) ev_y ev_b ev_nL ev_ret ev_ws ev_cm ev_sm 91 ev_m91 := by
  refine Or.inr ⟨by decide +kernel, ⟨ev_W, Or.inl rfl⟩, fun d E hd6 hE p e R s m args below meth c Q ad0 hx hb hml hname hown hts hXs hA hR => ?_⟩
  subst hR
  have S : CallFix p m c cX28_print___ 1 s args ev_W RX28 := ⟨hx, hb, hml, hown, fun w hw => hts w (List.mem_cons_of_mem _ hw)⟩
  have K := fun (pc : Nat) (x : ev_I ⊕ Nat) => ev_code_at (P := fun pc f => ev_Sim p l e ({ frames := d + 1, cells := 0, slots := 0, locals := 64 * (d + 1) } : Room) s m args below meth c Q 1 D ev_cl A s.heap ex ad0 ev_ty pc f) (K := fun pc k => ev_stop k cX28_print___ pc (some .int)) (t := [ev_r91_0 E, ev_r91_1 E]) ⟨ev_h91_0 hl0 hd6 hE hXs hA S hname, ⟨ev_h91_1 hl0 hd6 hE hXs hA S hname, trivial⟩⟩ (pc := pc) (x := x)
  exact ⟨fun pc f hf => K pc _ hf, fun pc k hk => K pc _ hk⟩
theorem ev_t92 {l : Launch} {D : va_G} {A : Nat → Prop} {ex : Nat → Value} (hl0 : l.stackTraces = false) : ev_TabQ2 l D ev_cl A ex ev_ty (ev_XT A ex) ev_y ev_b ev_nL ev_ret ev_ws ev_cm ev_sm 92 ev_m92 := by
  refine Or.inr ⟨by decide +kernel, ⟨ev_W, Or.inl rfl⟩, fun d E hd6 hE p e R s m args below meth c Q ad0 hx hb hml hname hown hts hXs hA hR => ?_⟩
  subst hR
  have S : CallFix p m c cX28_put_ 9 s args ev_W RX28 := ⟨hx, hb, hml, hown, fun w hw => hts w (List.mem_cons_of_mem _ hw)⟩
  have K := fun (pc : Nat) (x : ev_I ⊕ Nat) => ev_code_at (P := fun pc f => ev_Sim p l e ({ frames := d + 1, cells := 2, slots := 0, locals := 64 * (d + 1) } : Room) s m args below meth c Q 9 D ev_cl A s.heap ex ad0 ev_ty pc f) (K := fun pc k => ev_stop k cX28_put_ pc (some .boolean)) (t := [ev_r92_0 E, ev_r92_1 E, ev_r92_2 E, ev_r92_3 E, ev_r92_4 E, ev_r92_5 E, ev_r92_6 E, [], ev_r92_8 E, ev_r92_9 E, ev_r92_10 E, ev_r92_11 E, ev_r92_12 E]) ⟨ev_h92_0 hl0 hd6 hE hXs hA S hname, ⟨ev_h92_1 hl0 hd6 hE hXs hA S hname, ⟨ev_h92_2 hl0 hd6 hE hXs hA S hname, ⟨ev_h92_3 hl0 hd6 hE hXs hA S hname, ⟨ev_h92_4 hl0 hd6 hE hXs hA S hname, ⟨ev_h92_5 hl0 hd6 hE hXs hA S hname, ⟨ev_h92_6 hl0 hd6 hE hXs hA S hname, ⟨ev_pz, ⟨ev_h92_8 hl0 hd6 hE hXs hA S hname, ⟨ev_h92_9 hl0 hd6 hE hXs hA S hname, ⟨ev_h92_10 hl0 hd6 hE hXs hA S hname, ⟨ev_h92_11 hl0 hd6 hE hXs hA S hname, ⟨ev_h92_12 hl0 hd6 hE hXs hA S hname, trivial⟩⟩⟩⟩⟩⟩⟩⟩⟩⟩⟩⟩⟩ (pc := pc) (x := x)
  exact ⟨fun pc f hf => K pc _ hf, fun pc k hk => K pc _ hk⟩
theorem ev_t93 {l : Launch} {D : va_G} {A : Nat → Prop} {ex : Nat → Value} (hl0 : l.stackTraces = false) : ev_TabQ2 l D ev_cl A ex ev_ty (ev_XT A ex) ev_y ev_b ev_nL ev_ret ev_ws ev_cm ev_sm 93 ev_m93 := by
  refine Or.inr ⟨by decide +kernel, ⟨ev_W, Or.inl rfl⟩, fun d E hd6 hE p e R s m args below meth c Q ad0 hx hb hml hname hown hts hXs hA hR => ?_⟩
  subst hR
  have S : CallFix p m c cX28_read_ 3 s args ev_W RX28 := ⟨hx, hb, hml, hown, fun w hw => hts w (List.mem_cons_of_mem _ hw)⟩
  have K := fun (pc : Nat) (x : ev_I ⊕ Nat) => ev_code_at (P := fun pc f => ev_Sim p l e ({ frames := d + 1, cells := 4, slots := 26, locals := 64 * (d + 1) } : Room) s m args below meth c Q 3 D ev_cl A s.heap ex ad0 ev_ty pc f) (K := fun pc k => ev_stop k cX28_read_ pc (some .int)) (t := [ev_r93_0 E, ev_r93_1 E, ev_r93_2 E, ev_r93_3 E, ev_r93_4 E]) ⟨ev_h93_0 hl0 hd6 hE hXs hA S hname, ⟨ev_h93_1 hl0 hd6 hE hXs hA S hname, ⟨ev_h93_2 hl0 hd6 hE hXs hA S hname, ⟨ev_h93_3 hl0 hd6 hE hXs hA S hname, ⟨ev_h93_4 hl0 hd6 hE hXs hA S hname, trivial⟩⟩⟩⟩⟩ (pc := pc) (x := x)
  exact ⟨fun pc f hf => K pc _ hf, fun pc k hk => K pc _ hk⟩
theorem ev_t94 {l : Launch} {D : va_G} {A : Nat → Prop} {ex : Nat → Value} (hl0 : l.stackTraces = false) : ev_TabQ2 l D ev_cl A ex ev_ty (ev_XT A ex) ev_y ev_b ev_nL ev_ret ev_ws ev_cm ev_sm 94 ev_m94 := by
  refine Or.inr ⟨by decide +kernel, ⟨ev_W, Or.inr ⟨_, rfl⟩⟩, fun d E hd6 hE p e R s m args below meth c Q ad0 hx hb hml hname hown hts hXs hA hR => ?_⟩
  subst hR
  have S : CallFix p m c cX28_reads 3 s args ev_W RX28 := ⟨hx, hb, hml, hown, fun w hw => hts w (List.mem_cons_of_mem _ hw)⟩
  have K := fun (pc : Nat) (x : ev_I ⊕ Nat) => ev_code_at (P := fun pc f => ev_Sim p l e ({ frames := d + 1, cells := 3, slots := 26, locals := 64 * (d + 1) } : Room) s m args below meth c Q 3 D ev_cl A s.heap ex ad0 ev_ty pc f) (K := fun pc k => ev_stop k cX28_reads pc (some .boolean)) (t := [ev_r94_0 E, ev_r94_1 E, ev_r94_2 E, ev_r94_3 E, ev_r94_4 E]) ⟨ev_h94_0 hl0 hd6 hE hXs hA S hname, ⟨ev_h94_1 hl0 hd6 hE hXs hA S hname, ⟨ev_h94_2 hl0 hd6 hE hXs hA S hname, ⟨ev_h94_3 hl0 hd6 hE hXs hA S hname, ⟨ev_h94_4 hl0 hd6 hE hXs hA S hname, trivial⟩⟩⟩⟩⟩ (pc := pc) (x := x)
  exact ⟨fun pc f hf => K pc _ hf, fun pc k hk => K pc _ hk⟩
theorem ev_t95 {l : Launch} {D : va_G} {A : Nat → Prop} {ex : Nat → Value} (hl0 : l.stackTraces = false) : ev_TabQ2 l D ev_cl A ex ev_ty (ev_XT A ex) ev_y ev_b ev_nL ev_ret ev_ws ev_cm ev_sm 95 ev_m95 := by
  refine Or.inr ⟨by decide +kernel, ⟨ev_W, Or.inl rfl⟩, fun d E hd6 hE p e R s m args below meth c Q ad0 hx hb hml hname hown hts hXs hA hR => ?_⟩
  subst hR
  have S : CallFix p m c cX28_reset 1 s args ev_W RX28 := ⟨hx, hb, hml, hown, fun w hw => hts w (List.mem_cons_of_mem _ hw)⟩
  have K := fun (pc : Nat) (x : ev_I ⊕ Nat) => ev_code_at (P := fun pc f => ev_Sim p l e ({ frames := d + 1, cells := 6, slots := 30, locals := 64 * (d + 1) } : Room) s m args below meth c Q 1 D ev_cl A s.heap ex ad0 ev_ty pc f) (K := fun pc k => ev_stop k cX28_reset pc none) (t := [ev_r95_0 E]) ⟨ev_h95_0 hl0 hd6 hE hXs hA S hname, trivial⟩ (pc := pc) (x := x)
  exact ⟨fun pc f hf => K pc _ hf, fun pc k hk => K pc _ hk⟩
theorem ev_t96 {l : Launch} {D : va_G} {A : Nat → Prop} {ex : Nat → Value} (hl0 : l.stackTraces = false) : ev_TabQ2 l D ev_cl A ex ev_ty (ev_XT A ex) ev_y ev_b ev_nL ev_ret ev_ws ev_cm ev_sm 96 ev_m96 := by
  refine Or.inr ⟨by decide +kernel, ⟨ev_W, Or.inl rfl⟩, fun d E hd6 hE p e R s m args below meth c Q ad0 hx hb hml hname hown hts hXs hA hR => ?_⟩
  subst hR
  have S : CallFix p m c cX28_room 2 s args ev_W RX28 := ⟨hx, hb, hml, hown, fun w hw => hts w (List.mem_cons_of_mem _ hw)⟩
  have K := fun (pc : Nat) (x : ev_I ⊕ Nat) => ev_code_at (P := fun pc f => ev_Sim p l e ({ frames := d + 1, cells := 0, slots := 0, locals := 64 * (d + 1) } : Room) s m args below meth c Q 2 D ev_cl A s.heap ex ad0 ev_ty pc f) (K := fun pc k => ev_stop k cX28_room pc none) (t := [ev_r96_0 E, ev_r96_1 E, ev_r96_2 E]) ⟨ev_h96_0 hl0 hd6 hE hXs hA S hname, ⟨ev_h96_1 hl0 hd6 hE hXs hA S hname, ⟨ev_h96_2 hl0 hd6 hE hXs hA S hname, trivial⟩⟩⟩ (pc := pc) (x := x)
  exact ⟨fun pc f hf => K pc _ hf, fun pc k hk => K pc _ hk⟩
theorem ev_t97 {l : Launch} {D : va_G} {A : Nat → Prop} {ex : Nat → Value} (hl0 : l.stackTraces = false) : ev_TabQ2 l D ev_cl A ex ev_ty (ev_XT A ex) ev_y ev_b ev_nL ev_ret ev_ws ev_cm ev_sm 97 ev_m97 := by
  refine Or.inr ⟨by decide +kernel, ⟨ev_W, Or.inl rfl⟩, fun d E hd6 hE p e R s m args below meth c Q ad0 hx hb hml hname hown hts hXs hA hR => ?_⟩
  subst hR
  have S : CallFix p m c cX28_run 2 s args ev_W RX28 := ⟨hx, hb, hml, hown, fun w hw => hts w (List.mem_cons_of_mem _ hw)⟩
  have K := fun (pc : Nat) (x : ev_I ⊕ Nat) => ev_code_at (P := fun pc f => ev_Sim p l e ({ frames := d + 1, cells := 0, slots := 0, locals := 64 * (d + 1) } : Room) s m args below meth c Q 2 D ev_cl A s.heap ex ad0 ev_ty pc f) (K := fun pc k => ev_stop k cX28_run pc (some .int)) (t := [ev_r97_0 E, ev_r97_1 E, ev_r97_2 E]) ⟨ev_h97_0 hl0 hd6 hE hXs hA S hname, ⟨ev_h97_1 hl0 hd6 hE hXs hA S hname, ⟨ev_h97_2 hl0 hd6 hE hXs hA S hname, trivial⟩⟩⟩ (pc := pc) (x := x)
  exact ⟨fun pc f hf => K pc _ hf, fun pc k hk => K pc _ hk⟩
theorem ev_t98 {l : Launch} {D : va_G} {A : Nat → Prop} {ex : Nat → Value} (hl0 : l.stackTraces = false) : ev_TabQ2 l D ev_cl A ex ev_ty (ev_XT A ex) ev_y ev_b ev_nL ev_ret ev_ws ev_cm ev_sm 98 ev_m98 := by
  refine Or.inr ⟨by decide +kernel, ⟨ev_W, Or.inl rfl⟩, fun d E hd6 hE p e R s m args below meth c Q ad0 hx hb hml hname hown hts hXs hA hR => ?_⟩
  subst hR
  have S : CallFix p m c cX28_scriptOf 8 s args ev_W RX28 := ⟨hx, hb, hml, hown, fun w hw => hts w (List.mem_cons_of_mem _ hw)⟩
  have K := fun (pc : Nat) (x : ev_I ⊕ Nat) => ev_code_at (P := fun pc f => ev_Sim p l e ({ frames := d + 1, cells := 3, slots := 26, locals := 64 * (d + 1) } : Room) s m args below meth c Q 8 D ev_cl A s.heap ex ad0 ev_ty pc f) (K := fun pc k => ev_stop k cX28_scriptOf pc (some (.object "TextShellModel$AndOr"))) (t := [ev_r98_0 E, ev_r98_1 E, ev_r98_2 E, ev_r98_3 E, ev_r98_4 E, ev_r98_5 E, ev_r98_6 E, ev_r98_7 E, [], ev_r98_9 E, ev_r98_10 E]) ⟨ev_h98_0 hl0 hd6 hE hXs hA S hname, ⟨ev_h98_1 hl0 hd6 hE hXs hA S hname, ⟨ev_h98_2 hl0 hd6 hE hXs hA S hname, ⟨ev_h98_3 hl0 hd6 hE hXs hA S hname, ⟨ev_h98_4 hl0 hd6 hE hXs hA S hname, ⟨ev_h98_5 hl0 hd6 hE hXs hA S hname, ⟨ev_h98_6 hl0 hd6 hE hXs hA S hname, ⟨ev_h98_7 hl0 hd6 hE hXs hA S hname, ⟨ev_pz, ⟨ev_h98_9 hl0 hd6 hE hXs hA S hname, ⟨ev_h98_10 hl0 hd6 hE hXs hA S hname, trivial⟩⟩⟩⟩⟩⟩⟩⟩⟩⟩⟩ (pc := pc) (x := x)
  exact ⟨fun pc f hf => K pc _ hf, fun pc k hk => K pc _ hk⟩
theorem ev_t99 {l : Launch} {D : va_G} {A : Nat → Prop} {ex : Nat → Value} (hl0 : l.stackTraces = false) : ev_TabQ2 l D ev_cl A ex ev_ty (ev_XT A ex) ev_y ev_b ev_nL ev_ret ev_ws ev_cm ev_sm 99 ev_m99 := by
  refine Or.inr ⟨by decide +kernel, ⟨ev_W, Or.inl rfl⟩, fun d E hd6 hE p e R s m args below meth c Q ad0 hx hb hml hname hown hts hXs hA hR => ?_⟩
  subst hR
  have S : CallFix p m c cX28_taken 3 s args ev_W RX28 := ⟨hx, hb, hml, hown, fun w hw => hts w (List.mem_cons_of_mem _ hw)⟩
  have K := fun (pc : Nat) (x : ev_I ⊕ Nat) => ev_code_at (P := fun pc f => ev_Sim p l e ({ frames := d + 1, cells := 1, slots := 0, locals := 64 * (d + 1) } : Room) s m args below meth c Q 3 D ev_cl A s.heap ex ad0 ev_ty pc f) (K := fun pc k => ev_stop k cX28_taken pc (some (.array .byte))) (t := [ev_r99_0 E, ev_r99_1 E]) ⟨ev_h99_0 hl0 hd6 hE hXs hA S hname, ⟨ev_h99_1 hl0 hd6 hE hXs hA S hname, trivial⟩⟩ (pc := pc) (x := x)
  exact ⟨fun pc f hf => K pc _ hf, fun pc k hk => K pc _ hk⟩
theorem ev_t100 {l : Launch} {D : va_G} {A : Nat → Prop} {ex : Nat → Value} (hl0 : l.stackTraces = false) : ev_TabQ2 l D ev_cl A ex ev_ty (ev_XT A ex) ev_y ev_b ev_nL ev_ret ev_ws ev_cm ev_sm 100 ev_m100 := by
  refine Or.inr ⟨by decide +kernel, ⟨ev_W, Or.inl rfl⟩, fun d E hd6 hE p e R s m args below meth c Q ad0 hx hb hml hname hown hts hXs hA hR => ?_⟩
  subst hR
  have S : CallFix p m c cX28_thrown 1 s args ev_W RX28 := ⟨hx, hb, hml, hown, fun w hw => hts w (List.mem_cons_of_mem _ hw)⟩
  have K := fun (pc : Nat) (x : ev_I ⊕ Nat) => ev_code_at (P := fun pc f => ev_Sim p l e ({ frames := d + 1, cells := 0, slots := 0, locals := 64 * (d + 1) } : Room) s m args below meth c Q 1 D ev_cl A s.heap ex ad0 ev_ty pc f) (K := fun pc k => ev_stop k cX28_thrown pc (some .int)) (t := [ev_r100_0 E]) ⟨ev_h100_0 hl0 hd6 hE hXs hA S hname, trivial⟩ (pc := pc) (x := x)
  exact ⟨fun pc f hf => K pc _ hf, fun pc k hk => K pc _ hk⟩
theorem ev_t101 {l : Launch} {D : va_G} {A : Nat → Prop} {ex : Nat → Value} (hl0 : l.stackTraces = false) : ev_TabQ2 l D ev_cl A ex ev_ty (ev_XT A ex) ev_y ev_b ev_nL ev_ret ev_ws ev_cm ev_sm 101 ev_m101 := by
  refine Or.inr ⟨by decide +kernel, ⟨ev_W, Or.inl rfl⟩, fun d E hd6 hE p e R s m args below meth c Q ad0 hx hb hml hname hown hts hXs hA hR => ?_⟩
  subst hR
  have S : CallFix p m c cX14_init 1 s args ev_W RX14 := ⟨hx, hb, hml, hown, fun w hw => hts w (List.mem_cons_of_mem _ hw)⟩
  have K := fun (pc : Nat) (x : ev_I ⊕ Nat) => ev_code_at (P := fun pc f => ev_Sim p l e ({ frames := d + 1, cells := 1, slots := 16, locals := 64 * (d + 1) } : Room) s m args below meth c Q 1 D ev_cl A s.heap ex ad0 ev_ty pc f) (K := fun pc k => ev_stop k cX14_init pc none) (t := [ev_r101_0 E]) ⟨ev_h101_0 hl0 hd6 hE hXs hA S hname, trivial⟩ (pc := pc) (x := x)
  exact ⟨fun pc f hf => K pc _ hf, fun pc k hk => K pc _ hk⟩
theorem ev_t102 {l : Launch} {D : va_G} {A : Nat → Prop} {ex : Nat → Value} (hl0 : l.stackTraces = false) : ev_TabQ2 l D ev_cl A ex ev_ty (ev_XT A ex) ev_y ev_b ev_nL ev_ret ev_ws ev_cm ev_sm 102 ev_m102 := by
  refine Or.inr ⟨by decide +kernel, ⟨ev_W, Or.inl rfl⟩, fun d E hd6 hE p e R s m args below meth c Q ad0 hx hb hml hname hown hts hXs hA hR => ?_⟩
  subst hR
  have S : CallFix p m c cX14_add 4 s args ev_W RX14 := ⟨hx, hb, hml, hown, fun w hw => hts w (List.mem_cons_of_mem _ hw)⟩
  have K := fun (pc : Nat) (x : ev_I ⊕ Nat) => ev_code_at (P := fun pc f => ev_Sim p l e ({ frames := d + 1, cells := 1, slots := 32, locals := 64 * (d + 1) } : Room) s m args below meth c Q 4 D ev_cl A s.heap ex ad0 ev_ty pc f) (K := fun pc k => ev_stop k cX14_add pc none) (t := [ev_r102_0 E, ev_r102_1 E, ev_r102_2 E, ev_r102_3 E, ev_r102_4 E]) ⟨ev_h102_0 hl0 hd6 hE hXs hA S hname, ⟨ev_h102_1 hl0 hd6 hE hXs hA S hname, ⟨ev_h102_2 hl0 hd6 hE hXs hA S hname, ⟨ev_h102_3 hl0 hd6 hE hXs hA S hname, ⟨ev_h102_4 hl0 hd6 hE hXs hA S hname, trivial⟩⟩⟩⟩⟩ (pc := pc) (x := x)
  exact ⟨fun pc f hf => K pc _ hf, fun pc k hk => K pc _ hk⟩
theorem ev_t103 {l : Launch} {D : va_G} {A : Nat → Prop} {ex : Nat → Value} (hl0 : l.stackTraces = false) : ev_TabQ2 l D ev_cl A ex ev_ty (ev_XT A ex) ev_y ev_b ev_nL ev_ret ev_ws ev_cm ev_sm 103 ev_m103 := by
  refine Or.inr ⟨by decide +kernel, ⟨ev_W, Or.inl rfl⟩, fun d E hd6 hE p e R s m args below meth c Q ad0 hx hb hml hname hown hts hXs hA hR => ?_⟩
  subst hR
  have S : CallFix p m c cX19_init 1 s args ev_W RX19 := ⟨hx, hb, hml, hown, fun w hw => hts w (List.mem_cons_of_mem _ hw)⟩
  have K := fun (pc : Nat) (x : ev_I ⊕ Nat) => ev_code_at (P := fun pc f => ev_Sim p l e ({ frames := d + 1, cells := 0, slots := 0, locals := 64 * (d + 1) } : Room) s m args below meth c Q 1 D ev_cl A s.heap ex ad0 ev_ty pc f) (K := fun pc k => ev_stop k cX19_init pc none) (t := [ev_r103_0 E]) ⟨ev_h103_0 hl0 hd6 hE hXs hA S hname, trivial⟩ (pc := pc) (x := x)
  exact ⟨fun pc f hf => K pc _ hf, fun pc k hk => K pc _ hk⟩
theorem ev_t104 {l : Launch} {D : va_G} {A : Nat → Prop} {ex : Nat → Value} (hl0 : l.stackTraces = false) : ev_TabQ2 l D ev_cl A ex ev_ty (ev_XT A ex) ev_y ev_b ev_nL ev_ret ev_ws ev_cm ev_sm 104 ev_m104 := by
  refine Or.inr ⟨by decide +kernel, ⟨ev_W, Or.inl rfl⟩, fun d E hd6 hE p e R s m args below meth c Q ad0 hx hb hml hname hown hts hXs hA hR => ?_⟩
  subst hR
  have S : CallFix p m c cX21_init 3 s args ev_W RX21 := ⟨hx, hb, hml, hown, fun w hw => hts w (List.mem_cons_of_mem _ hw)⟩
  have K := fun (pc : Nat) (x : ev_I ⊕ Nat) => ev_code_at (P := fun pc f => ev_Sim p l e ({ frames := d + 1, cells := 0, slots := 0, locals := 64 * (d + 1) } : Room) s m args below meth c Q 3 D ev_cl A s.heap ex ad0 ev_ty pc f) (K := fun pc k => ev_stop k cX21_init pc none) (t := [ev_r104_0 E, ev_r104_1 E, ev_r104_2 E]) ⟨ev_h104_0 hl0 hd6 hE hXs hA S hname, ⟨ev_h104_1 hl0 hd6 hE hXs hA S hname, ⟨ev_h104_2 hl0 hd6 hE hXs hA S hname, trivial⟩⟩⟩ (pc := pc) (x := x)
  exact ⟨fun pc f hf => K pc _ hf, fun pc k hk => K pc _ hk⟩
theorem ev_t105 {l : Launch} {D : va_G} {A : Nat → Prop} {ex : Nat → Value} (hl0 : l.stackTraces = false) : ev_TabQ2 l D ev_cl A ex ev_ty (ev_XT A ex) ev_y ev_b ev_nL ev_ret ev_ws ev_cm ev_sm 105 ev_m105 := by
  refine Or.inr ⟨by decide +kernel, ⟨ev_W, Or.inl rfl⟩, fun d E hd6 hE p e R s m args below meth c Q ad0 hx hb hml hname hown hts hXs hA hR => ?_⟩
  subst hR
  have S : CallFix p m c cX22_init 1 s args ev_W RX22 := ⟨hx, hb, hml, hown, fun w hw => hts w (List.mem_cons_of_mem _ hw)⟩
  have K := fun (pc : Nat) (x : ev_I ⊕ Nat) => ev_code_at (P := fun pc f => ev_Sim p l e ({ frames := d + 1, cells := 0, slots := 0, locals := 64 * (d + 1) } : Room) s m args below meth c Q 1 D ev_cl A s.heap ex ad0 ev_ty pc f) (K := fun pc k => ev_stop k cX22_init pc none) (t := [ev_r105_0 E]) ⟨ev_h105_0 hl0 hd6 hE hXs hA S hname, trivial⟩ (pc := pc) (x := x)
  exact ⟨fun pc f hf => K pc _ hf, fun pc k hk => K pc _ hk⟩
theorem ev_t106 {l : Launch} {D : va_G} {A : Nat → Prop} {ex : Nat → Value} (hl0 : l.stackTraces = false) : ev_TabQ2 l D ev_cl A ex ev_ty (ev_XT A ex) ev_y ev_b ev_nL ev_ret ev_ws ev_cm ev_sm 106 ev_m106 := by
  refine Or.inr ⟨by decide +kernel, ⟨ev_W, Or.inl rfl⟩, fun d E hd6 hE p e R s m args below meth c Q ad0 hx hb hml hname hown hts hXs hA hR => ?_⟩
  subst hR
  have S : CallFix p m c cX25_init 7 s args ev_W RX25 := ⟨hx, hb, hml, hown, fun w hw => hts w (List.mem_cons_of_mem _ hw)⟩
  have K := fun (pc : Nat) (x : ev_I ⊕ Nat) => ev_code_at (P := fun pc f => ev_Sim p l e ({ frames := d + 1, cells := 1, slots := 8, locals := 64 * (d + 1) } : Room) s m args below meth c Q 7 D ev_cl A s.heap ex ad0 ev_ty pc f) (K := fun pc k => ev_stop k cX25_init pc none) (t := [ev_r106_0 E, ev_r106_1 E, ev_r106_2 E, ev_r106_3 E, ev_r106_4 E]) ⟨ev_h106_0 hl0 hd6 hE hXs hA S hname, ⟨ev_h106_1 hl0 hd6 hE hXs hA S hname, ⟨ev_h106_2 hl0 hd6 hE hXs hA S hname, ⟨ev_h106_3 hl0 hd6 hE hXs hA S hname, ⟨ev_h106_4 hl0 hd6 hE hXs hA S hname, trivial⟩⟩⟩⟩⟩ (pc := pc) (x := x)
  exact ⟨fun pc f hf => K pc _ hf, fun pc k hk => K pc _ hk⟩
theorem ev_t107 {l : Launch} {D : va_G} {A : Nat → Prop} {ex : Nat → Value} (hl0 : l.stackTraces = false) : ev_TabQ2 l D ev_cl A ex ev_ty (ev_XT A ex) ev_y ev_b ev_nL ev_ret ev_ws ev_cm ev_sm 107 ev_m107 := by
  refine Or.inr ⟨by decide +kernel, ⟨ev_W, Or.inl rfl⟩, fun d E hd6 hE p e R s m args below meth c Q ad0 hx hb hml hname hown hts hXs hA hR => ?_⟩
  subst hR
  have S : CallFix p m c cX25_advance 1 s args ev_W RX25 := ⟨hx, hb, hml, hown, fun w hw => hts w (List.mem_cons_of_mem _ hw)⟩
  have K := fun (pc : Nat) (x : ev_I ⊕ Nat) => ev_code_at (P := fun pc f => ev_Sim p l e ({ frames := d + 1, cells := 0, slots := 0, locals := 64 * (d + 1) } : Room) s m args below meth c Q 1 D ev_cl A s.heap ex ad0 ev_ty pc f) (K := fun pc k => ev_stop k cX25_advance pc none) (t := [ev_r107_0 E, ev_r107_1 E]) ⟨ev_h107_0 hl0 hd6 hE hXs hA S hname, ⟨ev_h107_1 hl0 hd6 hE hXs hA S hname, trivial⟩⟩ (pc := pc) (x := x)
  exact ⟨fun pc f hf => K pc _ hf, fun pc k hk => K pc _ hk⟩
theorem ev_t108 {l : Launch} {D : va_G} {A : Nat → Prop} {ex : Nat → Value} (hl0 : l.stackTraces = false) : ev_TabQ2 l D ev_cl A ex ev_ty (ev_XT A ex) ev_y ev_b ev_nL ev_ret ev_ws ev_cm ev_sm 108 ev_m108 := by
  refine Or.inr ⟨by decide +kernel, ⟨ev_W, Or.inl rfl⟩, fun d E hd6 hE p e R s m args below meth c Q ad0 hx hb hml hname hown hts hXs hA hR => ?_⟩
  subst hR
  have S : CallFix p m c cX25_aliases 7 s args ev_W RX25 := ⟨hx, hb, hml, hown, fun w hw => hts w (List.mem_cons_of_mem _ hw)⟩
  have K := fun (pc : Nat) (x : ev_I ⊕ Nat) => ev_code_at (P := fun pc f => ev_Sim p l e ({ frames := d + 1, cells := 0, slots := 0, locals := 64 * (d + 1) } : Room) s m args below meth c Q 7 D ev_cl A s.heap ex ad0 ev_ty pc f) (K := fun pc k => ev_stop k cX25_aliases pc none) (t := [ev_r108_0 E, [], [], [], [], [], [], [], [], [], [], [], [], ev_r108_13 E]) ⟨ev_h108_0 hl0 hd6 hE hXs hA S hname, ⟨ev_pz, ⟨ev_pz, ⟨ev_pz, ⟨ev_pz, ⟨ev_pz, ⟨ev_pz, ⟨ev_pz, ⟨ev_pz, ⟨ev_pz, ⟨ev_pz, ⟨ev_pz, ⟨ev_pz, ⟨ev_h108_13 hl0 hd6 hE hXs hA S hname, trivial⟩⟩⟩⟩⟩⟩⟩⟩⟩⟩⟩⟩⟩⟩ (pc := pc) (x := x)
  exact ⟨fun pc f hf => K pc _ hf, fun pc k hk => K pc _ hk⟩
theorem ev_t109 {l : Launch} {D : va_G} {A : Nat → Prop} {ex : Nat → Value} (hl0 : l.stackTraces = false) : ev_TabQ2 l D ev_cl A ex ev_ty (ev_XT A ex) ev_y ev_b ev_nL ev_ret ev_ws ev_cm ev_sm 109 ev_m109 := by
  refine Or.inr ⟨by decide +kernel, ⟨ev_W, Or.inl rfl⟩, fun d E hd6 hE p e R s m args below meth c Q ad0 hx hb hml hname hown hts hXs hA hR => ?_⟩
  subst hR
  have S : CallFix p m c cX25_bodies 2 s args ev_W RX25 := ⟨hx, hb, hml, hown, fun w hw => hts w (List.mem_cons_of_mem _ hw)⟩
  have K := fun (pc : Nat) (x : ev_I ⊕ Nat) => ev_code_at (P := fun pc f => ev_Sim p l e ({ frames := d + 1, cells := 0, slots := 0, locals := 64 * (d + 1) } : Room) s m args below meth c Q 2 D ev_cl A s.heap ex ad0 ev_ty pc f) (K := fun pc k => ev_stop k cX25_bodies pc none) (t := [ev_r109_0 E, ev_r109_1 E, ev_r109_2 E]) ⟨ev_h109_0 hl0 hd6 hE hXs hA S hname, ⟨ev_h109_1 hl0 hd6 hE hXs hA S hname, ⟨ev_h109_2 hl0 hd6 hE hXs hA S hname, trivial⟩⟩⟩ (pc := pc) (x := x)
  exact ⟨fun pc f hf => K pc _ hf, fun pc k hk => K pc _ hk⟩
theorem ev_t110 {l : Launch} {D : va_G} {A : Nat → Prop} {ex : Nat → Value} (hl0 : l.stackTraces = false) : ev_TabQ2 l D ev_cl A ex ev_ty (ev_XT A ex) ev_y ev_b ev_nL ev_ret ev_ws ev_cm ev_sm 110 ev_m110 := by
  refine Or.inr ⟨by decide +kernel, ⟨ev_W, Or.inl rfl⟩, fun d E hd6 hE p e R s m args below meth c Q ad0 hx hb hml hname hown hts hXs hA hR => ?_⟩
  subst hR
  have S : CallFix p m c cX25_isBlank 2 s args ev_W RX25 := ⟨hx, hb, hml, hown, fun w hw => hts w (List.mem_cons_of_mem _ hw)⟩
  have K := fun (pc : Nat) (x : ev_I ⊕ Nat) => ev_code_at (P := fun pc f => ev_Sim p l e ({ frames := d + 1, cells := 0, slots := 0, locals := 64 * (d + 1) } : Room) s m args below meth c Q 2 D ev_cl A s.heap ex ad0 ev_ty pc f) (K := fun pc k => ev_stop k cX25_isBlank pc (some .boolean)) (t := [ev_r110_0 E, ev_r110_1 E]) ⟨ev_h110_0 hl0 hd6 hE hXs hA S hname, ⟨ev_h110_1 hl0 hd6 hE hXs hA S hname, trivial⟩⟩ (pc := pc) (x := x)
  exact ⟨fun pc f hf => K pc _ hf, fun pc k hk => K pc _ hk⟩
theorem ev_t111 {l : Launch} {D : va_G} {A : Nat → Prop} {ex : Nat → Value} (hl0 : l.stackTraces = false) : ev_TabQ2 l D ev_cl A ex ev_ty (ev_XT A ex) ev_y ev_b ev_nL ev_ret ev_ws ev_cm ev_sm 111 ev_m111 := by
  refine Or.inr ⟨by decide +kernel, ⟨ev_W, Or.inl rfl⟩, fun d E hd6 hE p e R s m args below meth c Q ad0 hx hb hml hname hown hts hXs hA hR => ?_⟩
  subst hR
  have S : CallFix p m c cX25_line 1 s args ev_W RX25 := ⟨hx, hb, hml, hown, fun w hw => hts w (List.mem_cons_of_mem _ hw)⟩
  have K := fun (pc : Nat) (x : ev_I ⊕ Nat) => ev_code_at (P := fun pc f => ev_Sim p l e ({ frames := d + 1, cells := 0, slots := 0, locals := 64 * (d + 1) } : Room) s m args below meth c Q 1 D ev_cl A s.heap ex ad0 ev_ty pc f) (K := fun pc k => ev_stop k cX25_line pc (some .int)) (t := [ev_r111_0 E, ev_r111_1 E, [], ev_r111_3 E]) ⟨ev_h111_0 hl0 hd6 hE hXs hA S hname, ⟨ev_h111_1 hl0 hd6 hE hXs hA S hname, ⟨ev_pz, ⟨ev_h111_3 hl0 hd6 hE hXs hA S hname, trivial⟩⟩⟩⟩ (pc := pc) (x := x)
  exact ⟨fun pc f hf => K pc _ hf, fun pc k hk => K pc _ hk⟩
theorem ev_t112 {l : Launch} {D : va_G} {A : Nat → Prop} {ex : Nat → Value} (hl0 : l.stackTraces = false) : ev_TabQ2 l D ev_cl A ex ev_ty (ev_XT A ex) ev_y ev_b ev_nL ev_ret ev_ws ev_cm ev_sm 112 ev_m112 := by
  refine Or.inr ⟨by decide +kernel, ⟨ev_W, Or.inl rfl⟩, fun d E hd6 hE p e R s m args below meth c Q ad0 hx hb hml hname hown hts hXs hA hR => ?_⟩
  subst hR
  have S : CallFix p m c cX25_look 1 s args ev_W RX25 := ⟨hx, hb, hml, hown, fun w hw => hts w (List.mem_cons_of_mem _ hw)⟩
  have K := fun (pc : Nat) (x : ev_I ⊕ Nat) => ev_code_at (P := fun pc f => ev_Sim p l e ({ frames := d + 1, cells := 0, slots := 0, locals := 64 * (d + 1) } : Room) s m args below meth c Q 1 D ev_cl A s.heap ex ad0 ev_ty pc f) (K := fun pc k => ev_stop k cX25_look pc (some .int)) (t := [ev_r112_0 E, ev_r112_1 E, [], [], [], ev_r112_5 E, ev_r112_6 E, ev_r112_7 E]) ⟨ev_h112_0 hl0 hd6 hE hXs hA S hname, ⟨ev_h112_1 hl0 hd6 hE hXs hA S hname, ⟨ev_pz, ⟨ev_pz, ⟨ev_pz, ⟨ev_h112_5 hl0 hd6 hE hXs hA S hname, ⟨ev_h112_6 hl0 hd6 hE hXs hA S hname, ⟨ev_h112_7 hl0 hd6 hE hXs hA S hname, trivial⟩⟩⟩⟩⟩⟩⟩⟩ (pc := pc) (x := x)
  exact ⟨fun pc f hf => K pc _ hf, fun pc k hk => K pc _ hk⟩
theorem ev_t113 {l : Launch} {D : va_G} {A : Nat → Prop} {ex : Nat → Value} (hl0 : l.stackTraces = false) : ev_TabQ2 l D ev_cl A ex ev_ty (ev_XT A ex) ev_y ev_b ev_nL ev_ret ev_ws ev_cm ev_sm 113 ev_m113 := by
  refine Or.inr ⟨by decide +kernel, ⟨ev_W, Or.inl rfl⟩, fun d E hd6 hE p e R s m args below meth c Q ad0 hx hb hml hname hown hts hXs hA hR => ?_⟩
  subst hR
  have S : CallFix p m c cX25_next 2 s args ev_W RX25 := ⟨hx, hb, hml, hown, fun w hw => hts w (List.mem_cons_of_mem _ hw)⟩
  have K := fun (pc : Nat) (x : ev_I ⊕ Nat) => ev_code_at (P := fun pc f => ev_Sim p l e ({ frames := d + 1, cells := 0, slots := 0, locals := 64 * (d + 1) } : Room) s m args below meth c Q 2 D ev_cl A s.heap ex ad0 ev_ty pc f) (K := fun pc k => ev_stop k cX25_next pc none) (t := [ev_r113_0 E, ev_r113_1 E, [], [], [], ev_r113_5 E, ev_r113_6 E, ev_r113_7 E, [], [], ev_r113_10 E, ev_r113_11 E, ev_r113_12 E, [], [], [], [], [], [], [], ev_r113_20 E, ev_r113_21 E]) ⟨ev_h113_0 hl0 hd6 hE hXs hA S hname, ⟨ev_h113_1 hl0 hd6 hE hXs hA S hname, ⟨ev_pz, ⟨ev_pz, ⟨ev_pz, ⟨ev_h113_5 hl0 hd6 hE hXs hA S hname, ⟨ev_h113_6 hl0 hd6 hE hXs hA S hname, ⟨ev_h113_7 hl0 hd6 hE hXs hA S hname, ⟨ev_pz, ⟨ev_pz, ⟨ev_h113_10 hl0 hd6 hE hXs hA S hname, ⟨ev_h113_11 hl0 hd6 hE hXs hA S hname, ⟨ev_h113_12 hl0 hd6 hE hXs hA S hname, ⟨ev_pz, ⟨ev_pz, ⟨ev_pz, ⟨ev_pz, ⟨ev_pz, ⟨ev_pz, ⟨ev_pz, ⟨ev_h113_20 hl0 hd6 hE hXs hA S hname, ⟨ev_h113_21 hl0 hd6 hE hXs hA S hname, trivial⟩⟩⟩⟩⟩⟩⟩⟩⟩⟩⟩⟩⟩⟩⟩⟩⟩⟩⟩⟩⟩⟩ (pc := pc) (x := x)
  exact ⟨fun pc f hf => K pc _ hf, fun pc k hk => K pc _ hk⟩
theorem ev_t114 {l : Launch} {D : va_G} {A : Nat → Prop} {ex : Nat → Value} (hl0 : l.stackTraces = false) : ev_TabQ2 l D ev_cl A ex ev_ty (ev_XT A ex) ev_y ev_b ev_nL ev_ret ev_ws ev_cm ev_sm 114 ev_m114 := by
  refine Or.inr ⟨by decide +kernel, ⟨ev_W, Or.inl rfl⟩, fun d E hd6 hE p e R s m args below meth c Q ad0 hx hb hml hname hown hts hXs hA hR => ?_⟩
  subst hR
  have S : CallFix p m c cX25_script 2 s args ev_W RX25 := ⟨hx, hb, hml, hown, fun w hw => hts w (List.mem_cons_of_mem _ hw)⟩
  have K := fun (pc : Nat) (x : ev_I ⊕ Nat) => ev_code_at (P := fun pc f => ev_Sim p l e ({ frames := d + 1, cells := 0, slots := 0, locals := 64 * (d + 1) } : Room) s m args below meth c Q 2 D ev_cl A s.heap ex ad0 ev_ty pc f) (K := fun pc k => ev_stop k cX25_script pc (some (.object "TextShellModel$AndOr"))) (t := [ev_r114_0 E, ev_r114_1 E]) ⟨ev_h114_0 hl0 hd6 hE hXs hA S hname, ⟨ev_h114_1 hl0 hd6 hE hXs hA S hname, trivial⟩⟩ (pc := pc) (x := x)
  exact ⟨fun pc f hf => K pc _ hf, fun pc k hk => K pc _ hk⟩
theorem ev_t115 {l : Launch} {D : va_G} {A : Nat → Prop} {ex : Nat → Value} (hl0 : l.stackTraces = false) : ev_TabQ2 l D ev_cl A ex ev_ty (ev_XT A ex) ev_y ev_b ev_nL ev_ret ev_ws ev_cm ev_sm 115 ev_m115 := by
  refine Or.inr ⟨by decide +kernel, ⟨ev_W, Or.inl rfl⟩, fun d E hd6 hE p e R s m args below meth c Q ad0 hx hb hml hname hown hts hXs hA hR => ?_⟩
  subst hR
  have S : CallFix p m c cX25_settle 1 s args ev_W RX25 := ⟨hx, hb, hml, hown, fun w hw => hts w (List.mem_cons_of_mem _ hw)⟩
  have K := fun (pc : Nat) (x : ev_I ⊕ Nat) => ev_code_at (P := fun pc f => ev_Sim p l e ({ frames := d + 1, cells := 0, slots := 0, locals := 64 * (d + 1) } : Room) s m args below meth c Q 1 D ev_cl A s.heap ex ad0 ev_ty pc f) (K := fun pc k => ev_stop k cX25_settle pc none) (t := [ev_r115_0 E, ev_r115_1 E]) ⟨ev_h115_0 hl0 hd6 hE hXs hA S hname, ⟨ev_h115_1 hl0 hd6 hE hXs hA S hname, trivial⟩⟩ (pc := pc) (x := x)
  exact ⟨fun pc f hf => K pc _ hf, fun pc k hk => K pc _ hk⟩
theorem ev_t116 {l : Launch} {D : va_G} {A : Nat → Prop} {ex : Nat → Value} (hl0 : l.stackTraces = false) : ev_TabQ2 l D ev_cl A ex ev_ty (ev_XT A ex) ev_y ev_b ev_nL ev_ret ev_ws ev_cm ev_sm 116 ev_m116 := by
  refine Or.inr ⟨by decide +kernel, ⟨ev_W, Or.inl rfl⟩, fun d E hd6 hE p e R s m args below meth c Q ad0 hx hb hml hname hown hts hXs hA hR => ?_⟩
  subst hR
  have S : CallFix p m c cX25_sign 2 s args ev_W RX25 := ⟨hx, hb, hml, hown, fun w hw => hts w (List.mem_cons_of_mem _ hw)⟩
  have K := fun (pc : Nat) (x : ev_I ⊕ Nat) => ev_code_at (P := fun pc f => ev_Sim p l e ({ frames := d + 1, cells := 0, slots := 0, locals := 64 * (d + 1) } : Room) s m args below meth c Q 2 D ev_cl A s.heap ex ad0 ev_ty pc f) (K := fun pc k => ev_stop k cX25_sign pc none) (t := [ev_r116_0 E]) ⟨ev_h116_0 hl0 hd6 hE hXs hA S hname, trivial⟩ (pc := pc) (x := x)
  exact ⟨fun pc f hf => K pc _ hf, fun pc k hk => K pc _ hk⟩
theorem ev_t117 {l : Launch} {D : va_G} {A : Nat → Prop} {ex : Nat → Value} (hl0 : l.stackTraces = false) : ev_TabQ2 l D ev_cl A ex ev_ty (ev_XT A ex) ev_y ev_b ev_nL ev_ret ev_ws ev_cm ev_sm 117 ev_m117 := by
  refine Or.inr ⟨by decide +kernel, ⟨ev_W, Or.inl rfl⟩, fun d E hd6 hE p e R s m args below meth c Q ad0 hx hb hml hname hown hts hXs hA hR => ?_⟩
  subst hR
  have S : CallFix p m c cX25_take 2 s args ev_W RX25 := ⟨hx, hb, hml, hown, fun w hw => hts w (List.mem_cons_of_mem _ hw)⟩
  have K := fun (pc : Nat) (x : ev_I ⊕ Nat) => ev_code_at (P := fun pc f => ev_Sim p l e ({ frames := d + 1, cells := 0, slots := 0, locals := 64 * (d + 1) } : Room) s m args below meth c Q 2 D ev_cl A s.heap ex ad0 ev_ty pc f) (K := fun pc k => ev_stop k cX25_take pc (some .int)) (t := [ev_r117_0 E, ev_r117_1 E, ev_r117_2 E, ev_r117_3 E, ev_r117_4 E]) ⟨ev_h117_0 hl0 hd6 hE hXs hA S hname, ⟨ev_h117_1 hl0 hd6 hE hXs hA S hname, ⟨ev_h117_2 hl0 hd6 hE hXs hA S hname, ⟨ev_h117_3 hl0 hd6 hE hXs hA S hname, ⟨ev_h117_4 hl0 hd6 hE hXs hA S hname, trivial⟩⟩⟩⟩⟩ (pc := pc) (x := x)
  exact ⟨fun pc f hf => K pc _ hf, fun pc k hk => K pc _ hk⟩
theorem ev_t118 {l : Launch} {D : va_G} {A : Nat → Prop} {ex : Nat → Value} (hl0 : l.stackTraces = false) : ev_TabQ2 l D ev_cl A ex ev_ty (ev_XT A ex) ev_y ev_b ev_nL ev_ret ev_ws ev_cm ev_sm 118 ev_m118 := by
  refine Or.inr ⟨by decide +kernel, ⟨ev_W, Or.inl rfl⟩, fun d E hd6 hE p e R s m args below meth c Q ad0 hx hb hml hname hown hts hXs hA hR => ?_⟩
  subst hR
  have S : CallFix p m c cX26_init 1 s args ev_W RX26 := ⟨hx, hb, hml, hown, fun w hw => hts w (List.mem_cons_of_mem _ hw)⟩
  have K := fun (pc : Nat) (x : ev_I ⊕ Nat) => ev_code_at (P := fun pc f => ev_Sim p l e ({ frames := d + 1, cells := 2, slots := 515, locals := 64 * (d + 1) } : Room) s m args below meth c Q 1 D ev_cl A s.heap ex ad0 ev_ty pc f) (K := fun pc k => ev_stop k cX26_init pc none) (t := [ev_r118_0 E, ev_r118_1 E]) ⟨ev_h118_0 hl0 hd6 hE hXs hA S hname, ⟨ev_h118_1 hl0 hd6 hE hXs hA S hname, trivial⟩⟩ (pc := pc) (x := x)
  exact ⟨fun pc f hf => K pc _ hf, fun pc k hk => K pc _ hk⟩
theorem ev_t119 {l : Launch} {D : va_G} {A : Nat → Prop} {ex : Nat → Value} (hl0 : l.stackTraces = false) : ev_TabQ2 l D ev_cl A ex ev_ty (ev_XT A ex) ev_y ev_b ev_nL ev_ret ev_ws ev_cm ev_sm 119 ev_m119 := by
  refine Or.inr ⟨by decide +kernel, ⟨ev_W, Or.inl rfl⟩, fun d E hd6 hE p e R s m args below meth c Q ad0 hx hb hml hname hown hts hXs hA hR => ?_⟩
  subst hR
  have S : CallFix p m c cX26_chain 3 s args ev_W RX26 := ⟨hx, hb, hml, hown, fun w hw => hts w (List.mem_cons_of_mem _ hw)⟩
  have K := fun (pc : Nat) (x : ev_I ⊕ Nat) => ev_code_at (P := fun pc f => ev_Sim p l e ({ frames := d + 1, cells := 0, slots := 0, locals := 64 * (d + 1) } : Room) s m args below meth c Q 3 D ev_cl A s.heap ex ad0 ev_ty pc f) (K := fun pc k => ev_stop k cX26_chain pc (some .int)) (t := [ev_r119_0 E, ev_r119_1 E, ev_r119_2 E]) ⟨ev_h119_0 hl0 hd6 hE hXs hA S hname, ⟨ev_h119_1 hl0 hd6 hE hXs hA S hname, ⟨ev_h119_2 hl0 hd6 hE hXs hA S hname, trivial⟩⟩⟩ (pc := pc) (x := x)
  exact ⟨fun pc f hf => K pc _ hf, fun pc k hk => K pc _ hk⟩
theorem ev_t120 {l : Launch} {D : va_G} {A : Nat → Prop} {ex : Nat → Value} (hl0 : l.stackTraces = false) : ev_TabQ2 l D ev_cl A ex ev_ty (ev_XT A ex) ev_y ev_b ev_nL ev_ret ev_ws ev_cm ev_sm 120 ev_m120 := by
  refine Or.inr ⟨by decide +kernel, ⟨ev_W, Or.inl rfl⟩, fun d E hd6 hE p e R s m args below meth c Q ad0 hx hb hml hname hown hts hXs hA hR => ?_⟩
  subst hR
  have S : CallFix p m c cX26_clear 2 s args ev_W RX26 := ⟨hx, hb, hml, hown, fun w hw => hts w (List.mem_cons_of_mem _ hw)⟩
  have K := fun (pc : Nat) (x : ev_I ⊕ Nat) => ev_code_at (P := fun pc f => ev_Sim p l e ({ frames := d + 1, cells := 0, slots := 0, locals := 64 * (d + 1) } : Room) s m args below meth c Q 2 D ev_cl A s.heap ex ad0 ev_ty pc f) (K := fun pc k => ev_stop k cX26_clear pc none) (t := [ev_r120_0 E, ev_r120_1 E, ev_r120_2 E]) ⟨ev_h120_0 hl0 hd6 hE hXs hA S hname, ⟨ev_h120_1 hl0 hd6 hE hXs hA S hname, ⟨ev_h120_2 hl0 hd6 hE hXs hA S hname, trivial⟩⟩⟩ (pc := pc) (x := x)
  exact ⟨fun pc f hf => K pc _ hf, fun pc k hk => K pc _ hk⟩
theorem ev_t121 {l : Launch} {D : va_G} {A : Nat → Prop} {ex : Nat → Value} (hl0 : l.stackTraces = false) : ev_TabQ2 l D ev_cl A ex ev_ty (ev_XT A ex) ev_y ev_b ev_nL ev_ret ev_ws ev_cm ev_sm 121 ev_m121 := by
  refine Or.inr ⟨by decide +kernel, ⟨ev_W, Or.inl rfl⟩, fun d E hd6 hE p e R s m args below meth c Q ad0 hx hb hml hname hown hts hXs hA hR => ?_⟩
  subst hR
  have S : CallFix p m c cX26_find 5 s args ev_W RX26 := ⟨hx, hb, hml, hown, fun w hw => hts w (List.mem_cons_of_mem _ hw)⟩
  have K := fun (pc : Nat) (x : ev_I ⊕ Nat) => ev_code_at (P := fun pc f => ev_Sim p l e ({ frames := d + 1, cells := 0, slots := 0, locals := 64 * (d + 1) } : Room) s m args below meth c Q 5 D ev_cl A s.heap ex ad0 ev_ty pc f) (K := fun pc k => ev_stop k cX26_find pc (some (.object "TextShellModel$Entry"))) (t := [ev_r121_0 E, [], ev_r121_2 E, ev_r121_3 E]) ⟨ev_h121_0 hl0 hd6 hE hXs hA S hname, ⟨ev_pz, ⟨ev_h121_2 hl0 hd6 hE hXs hA S hname, ⟨ev_h121_3 hl0 hd6 hE hXs hA S hname, trivial⟩⟩⟩⟩ (pc := pc) (x := x)
  exact ⟨fun pc f hf => K pc _ hf, fun pc k hk => K pc _ hk⟩
theorem ev_t122 {l : Launch} {D : va_G} {A : Nat → Prop} {ex : Nat → Value} (hl0 : l.stackTraces = false) : ev_TabQ2 l D ev_cl A ex ev_ty (ev_XT A ex) ev_y ev_b ev_nL ev_ret ev_ws ev_cm ev_sm 122 ev_m122 := by
  refine Or.inr ⟨by decide +kernel, ⟨ev_W, Or.inl rfl⟩, fun d E hd6 hE p e R s m args below meth c Q ad0 hx hb hml hname hown hts hXs hA hR => ?_⟩
  subst hR
  have S : CallFix p m c cJ0_charAt_5068e 2 s args ev_W RJ0 := ⟨hx, hb, hml, hown, fun w hw => hts w (List.mem_cons_of_mem _ hw)⟩
  have K := fun (pc : Nat) (x : ev_I ⊕ Nat) => ev_code_at (P := fun pc f => ev_Sim p l e ({ frames := d + 1, cells := 0, slots := 0, locals := 64 * (d + 1) } : Room) s m args below meth c Q 2 D ev_cl A s.heap ex ad0 ev_ty pc f) (K := fun pc k => ev_stop k cJ0_charAt_5068e pc (some .char)) (t := [ev_r122_0 E]) ⟨ev_h122_0 hl0 hd6 hE hXs hA S hname, trivial⟩ (pc := pc) (x := x)
  exact ⟨fun pc f hf => K pc _ hf, fun pc k hk => K pc _ hk⟩
theorem ev_t123 {l : Launch} {D : va_G} {A : Nat → Prop} {ex : Nat → Value} (hl0 : l.stackTraces = false) : ev_TabQ2 l D ev_cl A ex ev_ty (ev_XT A ex) ev_y ev_b ev_nL ev_ret ev_ws ev_cm ev_sm 123 ev_m123 := by
  refine Or.inr ⟨by decide +kernel, ⟨ev_W, Or.inl rfl⟩, fun d E hd6 hE p e R s m args below meth c Q ad0 hx hb hml hname hown hts hXs hA hR => ?_⟩
  subst hR
  have S : CallFix p m c cJ0_checkIndex_df160 2 s args ev_W RJ0 := ⟨hx, hb, hml, hown, fun w hw => hts w (List.mem_cons_of_mem _ hw)⟩
  have K := fun (pc : Nat) (x : ev_I ⊕ Nat) => ev_code_at (P := fun pc f => ev_Sim p l e ({ frames := d + 1, cells := 0, slots := 0, locals := 64 * (d + 1) } : Room) s m args below meth c Q 2 D ev_cl A s.heap ex ad0 ev_ty pc f) (K := fun pc k => ev_stop k cJ0_checkIndex_df160 pc none) (t := [ev_r123_0 E]) ⟨ev_h123_0 hl0 hd6 hE hXs hA S hname, trivial⟩ (pc := pc) (x := x)
  exact ⟨fun pc f hf => K pc _ hf, fun pc k hk => K pc _ hk⟩
theorem ev_t124 {l : Launch} {D : va_G} {A : Nat → Prop} {ex : Nat → Value} (hl0 : l.stackTraces = false) : ev_TabQ2 l D ev_cl A ex ev_ty (ev_XT A ex) ev_y ev_b ev_nL ev_ret ev_ws ev_cm ev_sm 124 ev_m124 := by
  refine Or.inr ⟨by decide +kernel, ⟨ev_W, Or.inl rfl⟩, fun d E hd6 hE p e R s m args below meth c Q ad0 hx hb hml hname hown hts hXs hA hR => ?_⟩
  subst hR
  have S : CallFix p m c cJ0_coder_7d493 1 s args ev_W RJ0 := ⟨hx, hb, hml, hown, fun w hw => hts w (List.mem_cons_of_mem _ hw)⟩
  have K := fun (pc : Nat) (x : ev_I ⊕ Nat) => ev_code_at (P := fun pc f => ev_Sim p l e ({ frames := d + 1, cells := 0, slots := 0, locals := 64 * (d + 1) } : Room) s m args below meth c Q 1 D ev_cl A s.heap ex ad0 ev_ty pc f) (K := fun pc k => ev_stop k cJ0_coder_7d493 pc (some .byte)) (t := [ev_r124_0 E]) ⟨ev_h124_0 hl0 hd6 hE hXs hA S hname, trivial⟩ (pc := pc) (x := x)
  exact ⟨fun pc f hf => K pc _ hf, fun pc k hk => K pc _ hk⟩
theorem ev_t125 {l : Launch} {D : va_G} {A : Nat → Prop} {ex : Nat → Value} (hl0 : l.stackTraces = false) : ev_TabQ2 l D ev_cl A ex ev_ty (ev_XT A ex) ev_y ev_b ev_nL ev_ret ev_ws ev_cm ev_sm 125 ev_m125 := by
  refine Or.inr ⟨by decide +kernel, ⟨ev_W, Or.inl rfl⟩, fun d E hd6 hE p e R s m args below meth c Q ad0 hx hb hml hname hown hts hXs hA hR => ?_⟩
  subst hR
  have S : CallFix p m c cJ0_isLatin1_aae02 1 s args ev_W RJ0 := ⟨hx, hb, hml, hown, fun w hw => hts w (List.mem_cons_of_mem _ hw)⟩
  have K := fun (pc : Nat) (x : ev_I ⊕ Nat) => ev_code_at (P := fun pc f => ev_Sim p l e ({ frames := d + 1, cells := 0, slots := 0, locals := 64 * (d + 1) } : Room) s m args below meth c Q 1 D ev_cl A s.heap ex ad0 ev_ty pc f) (K := fun pc k => ev_stop k cJ0_isLatin1_aae02 pc (some .boolean)) (t := [ev_r125_0 E, ev_r125_1 E]) ⟨ev_h125_0 hl0 hd6 hE hXs hA S hname, ⟨ev_h125_1 hl0 hd6 hE hXs hA S hname, trivial⟩⟩ (pc := pc) (x := x)
  exact ⟨fun pc f hf => K pc _ hf, fun pc k hk => K pc _ hk⟩
theorem ev_t126 {l : Launch} {D : va_G} {A : Nat → Prop} {ex : Nat → Value} (hl0 : l.stackTraces = false) : ev_TabQ2 l D ev_cl A ex ev_ty (ev_XT A ex) ev_y ev_b ev_nL ev_ret ev_ws ev_cm ev_sm 126 ev_m126 := by
  refine Or.inr ⟨by decide +kernel, ⟨ev_W, Or.inl rfl⟩, fun d E hd6 hE p e R s m args below meth c Q ad0 hx hb hml hname hown hts hXs hA hR => ?_⟩
  subst hR
  have S : CallFix p m c cJ0_length_8abf5 1 s args ev_W RJ0 := ⟨hx, hb, hml, hown, fun w hw => hts w (List.mem_cons_of_mem _ hw)⟩
  have K := fun (pc : Nat) (x : ev_I ⊕ Nat) => ev_code_at (P := fun pc f => ev_Sim p l e ({ frames := d + 1, cells := 0, slots := 0, locals := 64 * (d + 1) } : Room) s m args below meth c Q 1 D ev_cl A s.heap ex ad0 ev_ty pc f) (K := fun pc k => ev_stop k cJ0_length_8abf5 pc (some .int)) (t := [ev_r126_0 E]) ⟨ev_h126_0 hl0 hd6 hE hXs hA S hname, trivial⟩ (pc := pc) (x := x)
  exact ⟨fun pc f hf => K pc _ hf, fun pc k hk => K pc _ hk⟩
theorem ev_t127 {l : Launch} {D : va_G} {A : Nat → Prop} {ex : Nat → Value} (hl0 : l.stackTraces = false) : ev_TabQ2 l D ev_cl A ex ev_ty (ev_XT A ex) ev_y ev_b ev_nL ev_ret ev_ws ev_cm ev_sm 127 ev_m127 := by
  refine Or.inr ⟨by decide +kernel, ⟨ev_W, Or.inl rfl⟩, fun d E hd6 hE p e R s m args below meth c Q ad0 hx hb hml hname hown hts hXs hA hR => ?_⟩
  subst hR
  have S : CallFix p m c cJ1_charAt_3b067 2 s args ev_W RJ1 := ⟨hx, hb, hml, hown, fun w hw => hts w (List.mem_cons_of_mem _ hw)⟩
  have K := fun (pc : Nat) (x : ev_I ⊕ Nat) => ev_code_at (P := fun pc f => ev_Sim p l e ({ frames := d + 1, cells := 0, slots := 0, locals := 64 * (d + 1) } : Room) s m args below meth c Q 2 D ev_cl A s.heap ex ad0 ev_ty pc f) (K := fun pc k => ev_stop k cJ1_charAt_3b067 pc (some .char)) (t := [ev_r127_0 E]) ⟨ev_h127_0 hl0 hd6 hE hXs hA S hname, trivial⟩ (pc := pc) (x := x)
  exact ⟨fun pc f hf => K pc _ hf, fun pc k hk => K pc _ hk⟩
theorem ev_t128 {l : Launch} {D : va_G} {A : Nat → Prop} {ex : Nat → Value} (hl0 : l.stackTraces = false) : ev_TabQ2 l D ev_cl A ex ev_ty (ev_XT A ex) ev_y ev_b ev_nL ev_ret ev_ws ev_cm ev_sm 128 ev_m128 := by
  refine Or.inr ⟨by decide +kernel, ⟨ev_W, Or.inl rfl⟩, fun d E hd6 hE p e R s m args below meth c Q ad0 hx hb hml hname hown hts hXs hA hR => ?_⟩
  subst hR
  have S : CallFix p m c cJxa1e45_init_da8c8 1 s args ev_W RJxa1e45 := ⟨hx, hb, hml, hown, fun w hw => hts w (List.mem_cons_of_mem _ hw)⟩
  have K := fun (pc : Nat) (x : ev_I ⊕ Nat) => ev_code_at (P := fun pc f => ev_Sim p l e ({ frames := d + 1, cells := 0, slots := 0, locals := 64 * (d + 1) } : Room) s m args below meth c Q 1 D ev_cl A s.heap ex ad0 ev_ty pc f) (K := fun pc k => ev_stop k cJxa1e45_init_da8c8 pc none) (t := [ev_r128_0 E]) ⟨ev_h128_0 hl0 hd6 hE hXs hA S hname, trivial⟩ (pc := pc) (x := x)
  exact ⟨fun pc f hf => K pc _ hf, fun pc k hk => K pc _ hk⟩
theorem ev_t129 {l : Launch} {D : va_G} {A : Nat → Prop} {ex : Nat → Value} (hl0 : l.stackTraces = false) : ev_TabQ2 l D ev_cl A ex ev_ty (ev_XT A ex) ev_y ev_b ev_nL ev_ret ev_ws ev_cm ev_sm 129 ev_m129 := by
  refine Or.inr ⟨by decide +kernel, ⟨ev_W, Or.inl rfl⟩, fun d E hd6 hE p e R s m args below meth c Q ad0 hx hb hml hname hown hts hXs hA hR => ?_⟩
  subst hR
  have S : CallFix p m c cJxc12de_init_da8c8 1 s args ev_W RJxc12de := ⟨hx, hb, hml, hown, fun w hw => hts w (List.mem_cons_of_mem _ hw)⟩
  have K := fun (pc : Nat) (x : ev_I ⊕ Nat) => ev_code_at (P := fun pc f => ev_Sim p l e ({ frames := d + 1, cells := 0, slots := 0, locals := 64 * (d + 1) } : Room) s m args below meth c Q 1 D ev_cl A s.heap ex ad0 ev_ty pc f) (K := fun pc k => ev_stop k cJxc12de_init_da8c8 pc none) (t := [ev_r129_0 E]) ⟨ev_h129_0 hl0 hd6 hE hXs hA S hname, trivial⟩ (pc := pc) (x := x)
  exact ⟨fun pc f hf => K pc _ hf, fun pc k hk => K pc _ hk⟩
theorem ev_t130 {l : Launch} {D : va_G} {A : Nat → Prop} {ex : Nat → Value} (hl0 : l.stackTraces = false) : ev_TabQ2 l D ev_cl A ex ev_ty (ev_XT A ex) ev_y ev_b ev_nL ev_ret ev_ws ev_cm ev_sm 130 ev_m130 := by
  refine Or.inr ⟨by decide +kernel, ⟨ev_W, Or.inl rfl⟩, fun d E hd6 hE p e R s m args below meth c Q ad0 hx hb hml hname hown hts hXs hA hR => ?_⟩
  subst hR
  have S : CallFix p m c cJx4a65c_init_da8c8 1 s args ev_W RJx4a65c := ⟨hx, hb, hml, hown, fun w hw => hts w (List.mem_cons_of_mem _ hw)⟩
  have K := fun (pc : Nat) (x : ev_I ⊕ Nat) => ev_code_at (P := fun pc f => ev_Sim p l e ({ frames := d + 1, cells := 0, slots := 0, locals := 64 * (d + 1) } : Room) s m args below meth c Q 1 D ev_cl A s.heap ex ad0 ev_ty pc f) (K := fun pc k => ev_stop k cJx4a65c_init_da8c8 pc none) (t := [ev_r130_0 E]) ⟨ev_h130_0 hl0 hd6 hE hXs hA S hname, trivial⟩ (pc := pc) (x := x)
  exact ⟨fun pc f hf => K pc _ hf, fun pc k hk => K pc _ hk⟩
theorem ev_t131 {l : Launch} {D : va_G} {A : Nat → Prop} {ex : Nat → Value} (hl0 : l.stackTraces = false) : ev_TabQ2 l D ev_cl A ex ev_ty (ev_XT A ex) ev_y ev_b ev_nL ev_ret ev_ws ev_cm ev_sm 131 ev_m131 := by
  refine Or.inr ⟨by decide +kernel, ⟨ev_W, Or.inl rfl⟩, fun d E hd6 hE p e R s m args below meth c Q ad0 hx hb hml hname hown hts hXs hA hR => ?_⟩
  subst hR
  have S : CallFix p m c cJ3_checkIndex_8e157 3 s args ev_W RJ3 := ⟨hx, hb, hml, hown, fun w hw => hts w (List.mem_cons_of_mem _ hw)⟩
  have K := fun (pc : Nat) (x : ev_I ⊕ Nat) => ev_code_at (P := fun pc f => ev_Sim p l e ({ frames := d + 1, cells := 0, slots := 0, locals := 64 * (d + 1) } : Room) s m args below meth c Q 3 D ev_cl A s.heap ex ad0 ev_ty pc f) (K := fun pc k => ev_stop k cJ3_checkIndex_8e157 pc (some .int)) (t := [ev_r131_0 E, ev_r131_1 E]) ⟨ev_h131_0 hl0 hd6 hE hXs hA S hname, ⟨ev_h131_1 hl0 hd6 hE hXs hA S hname, trivial⟩⟩ (pc := pc) (x := x)
  exact ⟨fun pc f hf => K pc _ hf, fun pc k hk => K pc _ hk⟩
theorem ev_tall {l : Launch} {D : va_G} {A : Nat → Prop} {ex : Nat → Value} (hl0 : l.stackTraces = false) : ev_Tab2 l D ev_cl A ex ev_ty (ev_XT A ex) ev_y ev_b ev_nL ev_ret ev_ws ev_cm ev_sm ev_mc :=
  ev_tab_of2 (ms := ev_ms) (fun mid E pc => rfl) (ev_ac (ev_t0 hl0) (ev_ac (ev_t1 hl0) (ev_ac (ev_t2 hl0) (ev_ac (ev_t3 hl0) (ev_ac (ev_t4 hl0) (ev_ac (ev_t5 hl0) (ev_ac (ev_t6 hl0) (ev_ac (ev_t7 hl0) (ev_ac (ev_t8 hl0) (ev_ac (ev_t9 hl0) (ev_ac (ev_t10 hl0) (ev_ac (ev_t11 hl0) (ev_ac (ev_t12 hl0) (ev_ac (ev_t13 hl0) (ev_ac (ev_t14 hl0) (ev_ac (ev_t15 hl0) (ev_ac (ev_t16 hl0) (ev_ac (ev_t17 hl0) (ev_ac (ev_t18 hl0) (ev_ac (ev_t19 hl0) (ev_ac (ev_t20 hl0) (ev_ac (ev_t21 hl0) (ev_ac (ev_t22 hl0) (ev_ac (ev_t23 hl0) (ev_ac (ev_t24 hl0) (ev_ac (ev_t25 hl0) (ev_ac (ev_t26 hl0) (ev_ac (ev_t27 hl0) (ev_ac (ev_t28 hl0) (ev_ac (ev_t29 hl0) (ev_ac (ev_t30 hl0) (ev_ac (ev_t31 hl0) (ev_ac (ev_t32 hl0) (ev_ac (ev_t33 hl0) (ev_ac (ev_t34 hl0) (ev_ac (ev_t35 hl0) (ev_ac (ev_t36 hl0) (ev_ac (ev_t37 hl0) (ev_ac (ev_t38 hl0) (ev_ac (ev_t39 hl0) (ev_ac (ev_t40 hl0) (ev_ac (ev_t41 hl0) (ev_ac (ev_t42 hl0) (ev_ac (ev_t43 hl0) (ev_ac (ev_t44 hl0) (ev_ac (ev_t45 hl0) (ev_ac (ev_t46 hl0) (ev_ac (ev_t47 hl0) (ev_ac (ev_t48 hl0) (ev_ac (ev_t49 hl0) (ev_ac (ev_t50 hl0) (ev_ac (ev_t51 hl0) (ev_ac (ev_t52 hl0) (ev_ac (ev_t53 hl0) (ev_ac (ev_t54 hl0) (ev_ac (ev_t55 hl0) (ev_ac (ev_t56 hl0) (ev_ac (ev_t57 hl0) (ev_ac (ev_t58 hl0) (ev_ac (ev_t59 hl0) (ev_ac (ev_t60 hl0) (ev_ac (ev_t61 hl0) (ev_ac (ev_t62 hl0) (ev_ac (ev_t63 hl0) (ev_ac (ev_t64 hl0) (ev_ac (ev_t65 hl0) (ev_ac (ev_t66 hl0) (ev_ac (Or.inl fun _ _ => rfl) (ev_ac (Or.inl fun _ _ => rfl) (ev_ac (Or.inl fun _ _ => rfl) (ev_ac (Or.inl fun _ _ => rfl) (ev_ac (Or.inl fun _ _ => rfl) (ev_ac (Or.inl fun _ _ => rfl) (ev_ac (Or.inl fun _ _ => rfl) (ev_ac (ev_t74 hl0) (ev_ac (ev_t75 hl0) (ev_ac (ev_t76 hl0) (ev_ac (ev_t77 hl0) (ev_ac (ev_t78 hl0) (ev_ac (ev_t79 hl0) (ev_ac (ev_t80 hl0) (ev_ac (ev_t81 hl0) (ev_ac (ev_t82 hl0) (ev_ac (ev_t83 hl0) (ev_ac (ev_t84 hl0) (ev_ac (ev_t85 hl0) (ev_ac (ev_t86 hl0) (ev_ac (ev_t87 hl0) (ev_ac (ev_t88 hl0) (ev_ac (ev_t89 hl0) (ev_ac (ev_t90 hl0) (ev_ac (ev_t91 hl0) (ev_ac (ev_t92 hl0) (ev_ac (ev_t93 hl0) (ev_ac (ev_t94 hl0) (ev_ac (ev_t95 hl0) (ev_ac (ev_t96 hl0) (ev_ac (ev_t97 hl0) (ev_ac (ev_t98 hl0) (ev_ac (ev_t99 hl0) (ev_ac (ev_t100 hl0) (ev_ac (ev_t101 hl0) (ev_ac (ev_t102 hl0) (ev_ac (ev_t103 hl0) (ev_ac (ev_t104 hl0) (ev_ac (ev_t105 hl0) (ev_ac (ev_t106 hl0) (ev_ac (ev_t107 hl0) (ev_ac (ev_t108 hl0) (ev_ac (ev_t109 hl0) (ev_ac (ev_t110 hl0) (ev_ac (ev_t111 hl0) (ev_ac (ev_t112 hl0) (ev_ac (ev_t113 hl0) (ev_ac (ev_t114 hl0) (ev_ac (ev_t115 hl0) (ev_ac (ev_t116 hl0) (ev_ac (ev_t117 hl0) (ev_ac (ev_t118 hl0) (ev_ac (ev_t119 hl0) (ev_ac (ev_t120 hl0) (ev_ac (ev_t121 hl0) (ev_ac (ev_t122 hl0) (ev_ac (ev_t123 hl0) (ev_ac (ev_t124 hl0) (ev_ac (ev_t125 hl0) (ev_ac (ev_t126 hl0) (ev_ac (ev_t127 hl0) (ev_ac (ev_t128 hl0) (ev_ac (ev_t129 hl0) (ev_ac (ev_t130 hl0) (ev_ac (ev_t131 hl0) (ev_az)))))))))))))))))))))))))))))))))))))))))))))))))))))))))))))))))))))))))))))))))))))))))))))))))))))))))))))))))))))))))))))))))))))
theorem ev_thall {l : Launch} {D : va_G} {A : Nat → Prop} {ex : Nat → Value} (hl0 : l.stackTraces = false) : ev_TabH l D ev_cl A ex ev_ty (ev_XT A ex) ev_y ev_b ev_nL ev_ret ev_hh ev_ws ev_cm ev_sm ev_mh ev_xn :=
  ev_tabH_of (k0 := 67) (ms := ev_hs) (fun mid E EX pc => rfl) (ev_ac (ev_t67 hl0) (ev_ac (ev_t68 hl0) (ev_ac (Or.inl fun _ _ _ => rfl) (ev_ac (ev_t70 hl0) (ev_ac (ev_t71 hl0) (ev_ac (ev_t72 hl0) (ev_ac (ev_t73 hl0) (ev_az))))))))
theorem ev_nt0 {l : Launch} {A : Nat → Prop} {ex : Nat → Value} : ev_TabXQ2 l A (ev_XT A ex) ev_y ev_b ev_nL ev_ws ev_cm ev_sm ev_xn 0 ev_m0 := ev_nothr2 (t := fun E => [ev_r0_0 E, ev_r0_1 E, ev_r0_2 E, ev_r0_3 E, ev_r0_4 E, ev_r0_5 E, ev_r0_6 E, ev_r0_7 E, ev_r0_8 E]) (fun _ => rfl) (fun _ => rfl)
theorem ev_tx1 {l : Launch} {A : Nat → Prop} {ex : Nat → Value} (hl0 : l.stackTraces = false) : ev_TabXQ2 l A (ev_XT A ex) ev_y ev_b ev_nL ev_ws ev_cm ev_sm ev_xn 1 ev_m1 := by
  intro d E pc k hd6 hk hm
  refine ⟨⟨ev_W, _, rfl⟩, fun p e R s m args below meth c hx hb hml hown hts hXs hR hno hlocks => ?_⟩
  subst hR
  have S : CallFix p m c cX12_ask 4 s args ev_W RX12 := ⟨hx, hb, hml, hown, fun w hw => hts w (List.mem_cons_of_mem _ hw)⟩
  exact ev_code_at (ev_x1 hl0 hd6 hXs S hno hlocks) (x := .inr k) hm hk
theorem ev_nt2 {l : Launch} {A : Nat → Prop} {ex : Nat → Value} : ev_TabXQ2 l A (ev_XT A ex) ev_y ev_b ev_nL ev_ws ev_cm ev_sm ev_xn 2 ev_m2 := ev_nothr2 (t := fun E => [ev_r2_0 E, [], ev_r2_2 E, ev_r2_3 E, ev_r2_4 E, ev_r2_5 E]) (fun _ => rfl) (fun _ => rfl)
theorem ev_nt3 {l : Launch} {A : Nat → Prop} {ex : Nat → Value} : ev_TabXQ2 l A (ev_XT A ex) ev_y ev_b ev_nL ev_ws ev_cm ev_sm ev_xn 3 ev_m3 := ev_nothr2 (t := fun E => [ev_r3_0 E, ev_r3_1 E, ev_r3_2 E]) (fun _ => rfl) (fun _ => rfl)
theorem ev_nt4 {l : Launch} {A : Nat → Prop} {ex : Nat → Value} : ev_TabXQ2 l A (ev_XT A ex) ev_y ev_b ev_nL ev_ws ev_cm ev_sm ev_xn 4 ev_m4 := ev_nothr2 (t := fun E => [ev_r4_0 E, [], [], [], [], ev_r4_5 E, ev_r4_6 E, ev_r4_7 E, ev_r4_8 E, ev_r4_9 E, ev_r4_10 E, ev_r4_11 E, ev_r4_12 E, ev_r4_13 E, ev_r4_14 E, ev_r4_15 E, ev_r4_16 E, ev_r4_17 E, ev_r4_18 E]) (fun _ => rfl) (fun _ => rfl)
theorem ev_nt5 {l : Launch} {A : Nat → Prop} {ex : Nat → Value} : ev_TabXQ2 l A (ev_XT A ex) ev_y ev_b ev_nL ev_ws ev_cm ev_sm ev_xn 5 ev_m5 := ev_nothr2 (t := fun E => [ev_r5_0 E, ev_r5_1 E, ev_r5_2 E, ev_r5_3 E]) (fun _ => rfl) (fun _ => rfl)
theorem ev_nt6 {l : Launch} {A : Nat → Prop} {ex : Nat → Value} : ev_TabXQ2 l A (ev_XT A ex) ev_y ev_b ev_nL ev_ws ev_cm ev_sm ev_xn 6 ev_m6 := ev_nothr2 (t := fun E => [ev_r6_0 E, ev_r6_1 E, ev_r6_2 E, ev_r6_3 E]) (fun _ => rfl) (fun _ => rfl)
theorem ev_nt7 {l : Launch} {A : Nat → Prop} {ex : Nat → Value} : ev_TabXQ2 l A (ev_XT A ex) ev_y ev_b ev_nL ev_ws ev_cm ev_sm ev_xn 7 ev_m7 := ev_nothr2 (t := fun E => [ev_r7_0 E, ev_r7_1 E, ev_r7_2 E, [], ev_r7_4 E]) (fun _ => rfl) (fun _ => rfl)
theorem ev_tx8 {l : Launch} {A : Nat → Prop} {ex : Nat → Value} (hl0 : l.stackTraces = false) : ev_TabXQ2 l A (ev_XT A ex) ev_y ev_b ev_nL ev_ws ev_cm ev_sm ev_xn 8 ev_m8 := by
  intro d E pc k hd6 hk hm
  refine ⟨⟨ev_W, _, rfl⟩, fun p e R s m args below meth c hx hb hml hown hts hXs hR hno hlocks => ?_⟩
  subst hR
  have S : CallFix p m c cX12_input 3 s args ev_W RX12 := ⟨hx, hb, hml, hown, fun w hw => hts w (List.mem_cons_of_mem _ hw)⟩
  exact ev_code_at (ev_x8 hl0 hd6 hXs S hno hlocks) (x := .inr k) hm hk
theorem ev_tx9 {l : Launch} {A : Nat → Prop} {ex : Nat → Value} (hl0 : l.stackTraces = false) : ev_TabXQ2 l A (ev_XT A ex) ev_y ev_b ev_nL ev_ws ev_cm ev_sm ev_xn 9 ev_m9 := by
  intro d E pc k hd6 hk hm
  refine ⟨⟨ev_W, _, rfl⟩, fun p e R s m args below meth c hx hb hml hown hts hXs hR hno hlocks => ?_⟩
  subst hR
  have S : CallFix p m c cX12_print 1 s args ev_W RX12 := ⟨hx, hb, hml, hown, fun w hw => hts w (List.mem_cons_of_mem _ hw)⟩
  exact ev_code_at (ev_x9 hl0 hd6 hXs S hno hlocks) (x := .inr k) hm hk
theorem ev_tx10 {l : Launch} {A : Nat → Prop} {ex : Nat → Value} (hl0 : l.stackTraces = false) : ev_TabXQ2 l A (ev_XT A ex) ev_y ev_b ev_nL ev_ws ev_cm ev_sm ev_xn 10 ev_m10 := by
  intro d E pc k hd6 hk hm
  refine ⟨⟨ev_W, _, rfl⟩, fun p e R s m args below meth c hx hb hml hown hts hXs hR hno hlocks => ?_⟩
  subst hR
  have S : CallFix p m c cX12_put 6 s args ev_W RX12 := ⟨hx, hb, hml, hown, fun w hw => hts w (List.mem_cons_of_mem _ hw)⟩
  exact ev_code_at (ev_x10 hl0 hd6 hXs S hno hlocks) (x := .inr k) hm hk
theorem ev_nt11 {l : Launch} {A : Nat → Prop} {ex : Nat → Value} : ev_TabXQ2 l A (ev_XT A ex) ev_y ev_b ev_nL ev_ws ev_cm ev_sm ev_xn 11 ev_m11 := ev_nothr2 (t := fun E => [ev_r11_0 E]) (fun _ => rfl) (fun _ => rfl)
theorem ev_tx12 {l : Launch} {A : Nat → Prop} {ex : Nat → Value} (hl0 : l.stackTraces = false) : ev_TabXQ2 l A (ev_XT A ex) ev_y ev_b ev_nL ev_ws ev_cm ev_sm ev_xn 12 ev_m12 := by
  intro d E pc k hd6 hk hm
  refine ⟨⟨ev_W, _, rfl⟩, fun p e R s m args below meth c hx hb hml hown hts hXs hR hno hlocks => ?_⟩
  subst hR
  have S : CallFix p m c cX12_read 3 s args ev_W RX12 := ⟨hx, hb, hml, hown, fun w hw => hts w (List.mem_cons_of_mem _ hw)⟩
  exact ev_code_at (ev_x12 hl0 hd6 hXs S hno hlocks) (x := .inr k) hm hk
theorem ev_nt13 {l : Launch} {A : Nat → Prop} {ex : Nat → Value} : ev_TabXQ2 l A (ev_XT A ex) ev_y ev_b ev_nL ev_ws ev_cm ev_sm ev_xn 13 ev_m13 := ev_nothr2 (t := fun E => [ev_r13_0 E, ev_r13_1 E, ev_r13_2 E, ev_r13_3 E, ev_r13_4 E]) (fun _ => rfl) (fun _ => rfl)
theorem ev_tx14 {l : Launch} {A : Nat → Prop} {ex : Nat → Value} (hl0 : l.stackTraces = false) : ev_TabXQ2 l A (ev_XT A ex) ev_y ev_b ev_nL ev_ws ev_cm ev_sm ev_xn 14 ev_m14 := by
  intro d E pc k hd6 hk hm
  refine ⟨⟨ev_W, _, rfl⟩, fun p e R s m args below meth c hx hb hml hown hts hXs hR hno hlocks => ?_⟩
  subst hR
  have S : CallFix p m c cX12_run 2 s args ev_W RX12 := ⟨hx, hb, hml, hown, fun w hw => hts w (List.mem_cons_of_mem _ hw)⟩
  exact ev_code_at (ev_x14 hl0 hd6 hXs S hno hlocks) (x := .inr k) hm hk
theorem ev_nt15 {l : Launch} {A : Nat → Prop} {ex : Nat → Value} : ev_TabXQ2 l A (ev_XT A ex) ev_y ev_b ev_nL ev_ws ev_cm ev_sm ev_xn 15 ev_m15 := ev_nothr2 (t := fun E => [ev_r15_0 E, ev_r15_1 E, ev_r15_2 E, ev_r15_3 E]) (fun _ => rfl) (fun _ => rfl)
theorem ev_nt16 {l : Launch} {A : Nat → Prop} {ex : Nat → Value} : ev_TabXQ2 l A (ev_XT A ex) ev_y ev_b ev_nL ev_ws ev_cm ev_sm ev_xn 16 ev_m16 := ev_nothr2 (t := fun E => [ev_r16_0 E]) (fun _ => rfl) (fun _ => rfl)
theorem ev_nt17 {l : Launch} {A : Nat → Prop} {ex : Nat → Value} : ev_TabXQ2 l A (ev_XT A ex) ev_y ev_b ev_nL ev_ws ev_cm ev_sm ev_xn 17 ev_m17 := ev_nothr2 (t := fun E => [ev_r17_0 E, ev_r17_1 E, ev_r17_2 E, ev_r17_3 E, ev_r17_4 E, ev_r17_5 E, ev_r17_6 E, ev_r17_7 E, ev_r17_8 E]) (fun _ => rfl) (fun _ => rfl)
theorem ev_nt18 {l : Launch} {A : Nat → Prop} {ex : Nat → Value} : ev_TabXQ2 l A (ev_XT A ex) ev_y ev_b ev_nL ev_ws ev_cm ev_sm ev_xn 18 ev_m18 := ev_nothr2 (t := fun E => [ev_r18_0 E]) (fun _ => rfl) (fun _ => rfl)
theorem ev_nt19 {l : Launch} {A : Nat → Prop} {ex : Nat → Value} : ev_TabXQ2 l A (ev_XT A ex) ev_y ev_b ev_nL ev_ws ev_cm ev_sm ev_xn 19 ev_m19 := ev_nothr2 (t := fun E => [ev_r19_0 E]) (fun _ => rfl) (fun _ => rfl)
theorem ev_nt20 {l : Launch} {A : Nat → Prop} {ex : Nat → Value} : ev_TabXQ2 l A (ev_XT A ex) ev_y ev_b ev_nL ev_ws ev_cm ev_sm ev_xn 20 ev_m20 := ev_nothr2 (t := fun E => [ev_r20_0 E, ev_r20_1 E, ev_r20_2 E, ev_r20_3 E, ev_r20_4 E, ev_r20_5 E]) (fun _ => rfl) (fun _ => rfl)
theorem ev_nt21 {l : Launch} {A : Nat → Prop} {ex : Nat → Value} : ev_TabXQ2 l A (ev_XT A ex) ev_y ev_b ev_nL ev_ws ev_cm ev_sm ev_xn 21 ev_m21 := ev_nothr2 (t := fun E => [ev_r21_0 E, ev_r21_1 E, ev_r21_2 E, ev_r21_3 E, ev_r21_4 E, ev_r21_5 E, ev_r21_6 E, ev_r21_7 E, ev_r21_8 E]) (fun _ => rfl) (fun _ => rfl)
theorem ev_nt22 {l : Launch} {A : Nat → Prop} {ex : Nat → Value} : ev_TabXQ2 l A (ev_XT A ex) ev_y ev_b ev_nL ev_ws ev_cm ev_sm ev_xn 22 ev_m22 := ev_nothr2 (t := fun E => [ev_r22_0 E]) (fun _ => rfl) (fun _ => rfl)
theorem ev_nt23 {l : Launch} {A : Nat → Prop} {ex : Nat → Value} : ev_TabXQ2 l A (ev_XT A ex) ev_y ev_b ev_nL ev_ws ev_cm ev_sm ev_xn 23 ev_m23 := ev_nothr2 (t := fun E => [ev_r23_0 E, ev_r23_1 E, ev_r23_2 E, ev_r23_3 E, ev_r23_4 E, ev_r23_5 E]) (fun _ => rfl) (fun _ => rfl)
theorem ev_nt24 {l : Launch} {A : Nat → Prop} {ex : Nat → Value} : ev_TabXQ2 l A (ev_XT A ex) ev_y ev_b ev_nL ev_ws ev_cm ev_sm ev_xn 24 ev_m24 := ev_nothr2 (t := fun E => [ev_r24_0 E, ev_r24_1 E, ev_r24_2 E, ev_r24_3 E, ev_r24_4 E, ev_r24_5 E]) (fun _ => rfl) (fun _ => rfl)
theorem ev_nt25 {l : Launch} {A : Nat → Prop} {ex : Nat → Value} : ev_TabXQ2 l A (ev_XT A ex) ev_y ev_b ev_nL ev_ws ev_cm ev_sm ev_xn 25 ev_m25 := ev_nothr2 (t := fun E => [ev_r25_0 E, ev_r25_1 E, ev_r25_2 E, ev_r25_3 E, ev_r25_4 E, ev_r25_5 E, ev_r25_6 E, ev_r25_7 E]) (fun _ => rfl) (fun _ => rfl)
theorem ev_nt26 {l : Launch} {A : Nat → Prop} {ex : Nat → Value} : ev_TabXQ2 l A (ev_XT A ex) ev_y ev_b ev_nL ev_ws ev_cm ev_sm ev_xn 26 ev_m26 := ev_nothr2 (t := fun E => [ev_r26_0 E, ev_r26_1 E, [], [], ev_r26_4 E, ev_r26_5 E, ev_r26_6 E, ev_r26_7 E, ev_r26_8 E]) (fun _ => rfl) (fun _ => rfl)
theorem ev_nt27 {l : Launch} {A : Nat → Prop} {ex : Nat → Value} : ev_TabXQ2 l A (ev_XT A ex) ev_y ev_b ev_nL ev_ws ev_cm ev_sm ev_xn 27 ev_m27 := ev_nothr2 (t := fun E => [ev_r27_0 E]) (fun _ => rfl) (fun _ => rfl)
theorem ev_nt28 {l : Launch} {A : Nat → Prop} {ex : Nat → Value} : ev_TabXQ2 l A (ev_XT A ex) ev_y ev_b ev_nL ev_ws ev_cm ev_sm ev_xn 28 ev_m28 := ev_nothr2 (t := fun E => [ev_r28_0 E, ev_r28_1 E]) (fun _ => rfl) (fun _ => rfl)
theorem ev_nt29 {l : Launch} {A : Nat → Prop} {ex : Nat → Value} : ev_TabXQ2 l A (ev_XT A ex) ev_y ev_b ev_nL ev_ws ev_cm ev_sm ev_xn 29 ev_m29 := ev_nothr2 (t := fun E => [ev_r29_0 E, ev_r29_1 E, ev_r29_2 E, ev_r29_3 E, ev_r29_4 E, ev_r29_5 E, ev_r29_6 E, ev_r29_7 E, ev_r29_8 E, ev_r29_9 E, ev_r29_10 E, ev_r29_11 E, ev_r29_12 E, ev_r29_13 E, ev_r29_14 E, ev_r29_15 E, ev_r29_16 E, ev_r29_17 E, ev_r29_18 E, ev_r29_19 E]) (fun _ => rfl) (fun _ => rfl)
theorem ev_nt30 {l : Launch} {A : Nat → Prop} {ex : Nat → Value} : ev_TabXQ2 l A (ev_XT A ex) ev_y ev_b ev_nL ev_ws ev_cm ev_sm ev_xn 30 ev_m30 := ev_nothr2 (t := fun E => [ev_r30_0 E, ev_r30_1 E, ev_r30_2 E, ev_r30_3 E, ev_r30_4 E, ev_r30_5 E, ev_r30_6 E, ev_r30_7 E]) (fun _ => rfl) (fun _ => rfl)
theorem ev_nt31 {l : Launch} {A : Nat → Prop} {ex : Nat → Value} : ev_TabXQ2 l A (ev_XT A ex) ev_y ev_b ev_nL ev_ws ev_cm ev_sm ev_xn 31 ev_m31 := ev_nothr2 (t := fun E => [ev_r31_0 E]) (fun _ => rfl) (fun _ => rfl)
theorem ev_nt32 {l : Launch} {A : Nat → Prop} {ex : Nat → Value} : ev_TabXQ2 l A (ev_XT A ex) ev_y ev_b ev_nL ev_ws ev_cm ev_sm ev_xn 32 ev_m32 := ev_nothr2 (t := fun E => [ev_r32_0 E, ev_r32_1 E, ev_r32_2 E, ev_r32_3 E]) (fun _ => rfl) (fun _ => rfl)
theorem ev_nt33 {l : Launch} {A : Nat → Prop} {ex : Nat → Value} : ev_TabXQ2 l A (ev_XT A ex) ev_y ev_b ev_nL ev_ws ev_cm ev_sm ev_xn 33 ev_m33 := ev_nothr2 (t := fun E => [ev_r33_0 E, ev_r33_1 E]) (fun _ => rfl) (fun _ => rfl)
theorem ev_nt34 {l : Launch} {A : Nat → Prop} {ex : Nat → Value} : ev_TabXQ2 l A (ev_XT A ex) ev_y ev_b ev_nL ev_ws ev_cm ev_sm ev_xn 34 ev_m34 := ev_nothr2 (t := fun E => [ev_r34_0 E, ev_r34_1 E, ev_r34_2 E, ev_r34_3 E]) (fun _ => rfl) (fun _ => rfl)
theorem ev_nt35 {l : Launch} {A : Nat → Prop} {ex : Nat → Value} : ev_TabXQ2 l A (ev_XT A ex) ev_y ev_b ev_nL ev_ws ev_cm ev_sm ev_xn 35 ev_m35 := ev_nothr2 (t := fun E => [ev_r35_0 E, [], [], ev_r35_3 E, ev_r35_4 E, [], [], [], ev_r35_8 E]) (fun _ => rfl) (fun _ => rfl)
theorem ev_nt36 {l : Launch} {A : Nat → Prop} {ex : Nat → Value} : ev_TabXQ2 l A (ev_XT A ex) ev_y ev_b ev_nL ev_ws ev_cm ev_sm ev_xn 36 ev_m36 := ev_nothr2 (t := fun E => [ev_r36_0 E, [], [], ev_r36_3 E, [], ev_r36_5 E, ev_r36_6 E, ev_r36_7 E, ev_r36_8 E, ev_r36_9 E, ev_r36_10 E]) (fun _ => rfl) (fun _ => rfl)
theorem ev_nt37 {l : Launch} {A : Nat → Prop} {ex : Nat → Value} : ev_TabXQ2 l A (ev_XT A ex) ev_y ev_b ev_nL ev_ws ev_cm ev_sm ev_xn 37 ev_m37 := ev_nothr2 (t := fun E => [ev_r37_0 E, ev_r37_1 E, ev_r37_2 E]) (fun _ => rfl) (fun _ => rfl)
theorem ev_nt38 {l : Launch} {A : Nat → Prop} {ex : Nat → Value} : ev_TabXQ2 l A (ev_XT A ex) ev_y ev_b ev_nL ev_ws ev_cm ev_sm ev_xn 38 ev_m38 := ev_nothr2 (t := fun E => [ev_r38_0 E, ev_r38_1 E, ev_r38_2 E, ev_r38_3 E, [], [], [], [], [], [], ev_r38_10 E]) (fun _ => rfl) (fun _ => rfl)
theorem ev_nt39 {l : Launch} {A : Nat → Prop} {ex : Nat → Value} : ev_TabXQ2 l A (ev_XT A ex) ev_y ev_b ev_nL ev_ws ev_cm ev_sm ev_xn 39 ev_m39 := ev_nothr2 (t := fun E => [ev_r39_0 E, ev_r39_1 E, ev_r39_2 E]) (fun _ => rfl) (fun _ => rfl)
theorem ev_nt40 {l : Launch} {A : Nat → Prop} {ex : Nat → Value} : ev_TabXQ2 l A (ev_XT A ex) ev_y ev_b ev_nL ev_ws ev_cm ev_sm ev_xn 40 ev_m40 := ev_nothr2 (t := fun E => [ev_r40_0 E, [], [], [], [], ev_r40_5 E]) (fun _ => rfl) (fun _ => rfl)
theorem ev_nt41 {l : Launch} {A : Nat → Prop} {ex : Nat → Value} : ev_TabXQ2 l A (ev_XT A ex) ev_y ev_b ev_nL ev_ws ev_cm ev_sm ev_xn 41 ev_m41 := ev_nothr2 (t := fun E => [ev_r41_0 E, [], [], [], ev_r41_4 E, ev_r41_5 E, ev_r41_6 E, ev_r41_7 E, ev_r41_8 E]) (fun _ => rfl) (fun _ => rfl)
theorem ev_nt42 {l : Launch} {A : Nat → Prop} {ex : Nat → Value} : ev_TabXQ2 l A (ev_XT A ex) ev_y ev_b ev_nL ev_ws ev_cm ev_sm ev_xn 42 ev_m42 := ev_nothr2 (t := fun E => [ev_r42_0 E, ev_r42_1 E]) (fun _ => rfl) (fun _ => rfl)
theorem ev_nt43 {l : Launch} {A : Nat → Prop} {ex : Nat → Value} : ev_TabXQ2 l A (ev_XT A ex) ev_y ev_b ev_nL ev_ws ev_cm ev_sm ev_xn 43 ev_m43 := ev_nothr2 (t := fun E => [ev_r43_0 E, ev_r43_1 E, ev_r43_2 E, ev_r43_3 E, [], [], ev_r43_6 E]) (fun _ => rfl) (fun _ => rfl)
theorem ev_nt44 {l : Launch} {A : Nat → Prop} {ex : Nat → Value} : ev_TabXQ2 l A (ev_XT A ex) ev_y ev_b ev_nL ev_ws ev_cm ev_sm ev_xn 44 ev_m44 := ev_nothr2 (t := fun E => [ev_r44_0 E, [], ev_r44_2 E]) (fun _ => rfl) (fun _ => rfl)
theorem ev_nt45 {l : Launch} {A : Nat → Prop} {ex : Nat → Value} : ev_TabXQ2 l A (ev_XT A ex) ev_y ev_b ev_nL ev_ws ev_cm ev_sm ev_xn 45 ev_m45 := ev_nothr2 (t := fun E => [ev_r45_0 E, ev_r45_1 E, ev_r45_2 E, ev_r45_3 E, ev_r45_4 E, [], [], [], ev_r45_8 E]) (fun _ => rfl) (fun _ => rfl)
theorem ev_nt46 {l : Launch} {A : Nat → Prop} {ex : Nat → Value} : ev_TabXQ2 l A (ev_XT A ex) ev_y ev_b ev_nL ev_ws ev_cm ev_sm ev_xn 46 ev_m46 := ev_nothr2 (t := fun E => [ev_r46_0 E, ev_r46_1 E, ev_r46_2 E, ev_r46_3 E, ev_r46_4 E]) (fun _ => rfl) (fun _ => rfl)
theorem ev_nt47 {l : Launch} {A : Nat → Prop} {ex : Nat → Value} : ev_TabXQ2 l A (ev_XT A ex) ev_y ev_b ev_nL ev_ws ev_cm ev_sm ev_xn 47 ev_m47 := ev_nothr2 (t := fun E => [ev_r47_0 E, [], [], [], ev_r47_4 E]) (fun _ => rfl) (fun _ => rfl)
theorem ev_nt48 {l : Launch} {A : Nat → Prop} {ex : Nat → Value} : ev_TabXQ2 l A (ev_XT A ex) ev_y ev_b ev_nL ev_ws ev_cm ev_sm ev_xn 48 ev_m48 := ev_nothr2 (t := fun E => [ev_r48_0 E, ev_r48_1 E, ev_r48_2 E, ev_r48_3 E, ev_r48_4 E, ev_r48_5 E, ev_r48_6 E, ev_r48_7 E, ev_r48_8 E, ev_r48_9 E, [], [], ev_r48_12 E, ev_r48_13 E]) (fun _ => rfl) (fun _ => rfl)
theorem ev_nt49 {l : Launch} {A : Nat → Prop} {ex : Nat → Value} : ev_TabXQ2 l A (ev_XT A ex) ev_y ev_b ev_nL ev_ws ev_cm ev_sm ev_xn 49 ev_m49 := ev_nothr2 (t := fun E => [ev_r49_0 E, ev_r49_1 E, ev_r49_2 E]) (fun _ => rfl) (fun _ => rfl)
theorem ev_nt50 {l : Launch} {A : Nat → Prop} {ex : Nat → Value} : ev_TabXQ2 l A (ev_XT A ex) ev_y ev_b ev_nL ev_ws ev_cm ev_sm ev_xn 50 ev_m50 := ev_nothr2 (t := fun E => [ev_r50_0 E, ev_r50_1 E, ev_r50_2 E, [], [], [], ev_r50_6 E, ev_r50_7 E, [], [], [], [], ev_r50_12 E]) (fun _ => rfl) (fun _ => rfl)
theorem ev_nt51 {l : Launch} {A : Nat → Prop} {ex : Nat → Value} : ev_TabXQ2 l A (ev_XT A ex) ev_y ev_b ev_nL ev_ws ev_cm ev_sm ev_xn 51 ev_m51 := ev_nothr2 (t := fun E => [ev_r51_0 E, ev_r51_1 E]) (fun _ => rfl) (fun _ => rfl)
theorem ev_nt52 {l : Launch} {A : Nat → Prop} {ex : Nat → Value} : ev_TabXQ2 l A (ev_XT A ex) ev_y ev_b ev_nL ev_ws ev_cm ev_sm ev_xn 52 ev_m52 := ev_nothr2 (t := fun E => [ev_r52_0 E, ev_r52_1 E]) (fun _ => rfl) (fun _ => rfl)
theorem ev_nt53 {l : Launch} {A : Nat → Prop} {ex : Nat → Value} : ev_TabXQ2 l A (ev_XT A ex) ev_y ev_b ev_nL ev_ws ev_cm ev_sm ev_xn 53 ev_m53 := ev_nothr2 (t := fun E => [ev_r53_0 E, [], ev_r53_2 E, ev_r53_3 E, ev_r53_4 E, ev_r53_5 E]) (fun _ => rfl) (fun _ => rfl)
theorem ev_nt54 {l : Launch} {A : Nat → Prop} {ex : Nat → Value} : ev_TabXQ2 l A (ev_XT A ex) ev_y ev_b ev_nL ev_ws ev_cm ev_sm ev_xn 54 ev_m54 := ev_nothr2 (t := fun E => [ev_r54_0 E, ev_r54_1 E]) (fun _ => rfl) (fun _ => rfl)
theorem ev_nt55 {l : Launch} {A : Nat → Prop} {ex : Nat → Value} : ev_TabXQ2 l A (ev_XT A ex) ev_y ev_b ev_nL ev_ws ev_cm ev_sm ev_xn 55 ev_m55 := ev_nothr2 (t := fun E => [ev_r55_0 E, ev_r55_1 E]) (fun _ => rfl) (fun _ => rfl)
theorem ev_nt56 {l : Launch} {A : Nat → Prop} {ex : Nat → Value} : ev_TabXQ2 l A (ev_XT A ex) ev_y ev_b ev_nL ev_ws ev_cm ev_sm ev_xn 56 ev_m56 := ev_nothr2 (t := fun E => [ev_r56_0 E, ev_r56_1 E]) (fun _ => rfl) (fun _ => rfl)
theorem ev_nt57 {l : Launch} {A : Nat → Prop} {ex : Nat → Value} : ev_TabXQ2 l A (ev_XT A ex) ev_y ev_b ev_nL ev_ws ev_cm ev_sm ev_xn 57 ev_m57 := ev_nothr2 (t := fun E => [ev_r57_0 E]) (fun _ => rfl) (fun _ => rfl)
theorem ev_nt58 {l : Launch} {A : Nat → Prop} {ex : Nat → Value} : ev_TabXQ2 l A (ev_XT A ex) ev_y ev_b ev_nL ev_ws ev_cm ev_sm ev_xn 58 ev_m58 := ev_nothr2 (t := fun E => [ev_r58_0 E, ev_r58_1 E]) (fun _ => rfl) (fun _ => rfl)
theorem ev_nt59 {l : Launch} {A : Nat → Prop} {ex : Nat → Value} : ev_TabXQ2 l A (ev_XT A ex) ev_y ev_b ev_nL ev_ws ev_cm ev_sm ev_xn 59 ev_m59 := ev_nothr2 (t := fun E => [ev_r59_0 E, ev_r59_1 E, ev_r59_2 E, ev_r59_3 E, ev_r59_4 E, ev_r59_5 E]) (fun _ => rfl) (fun _ => rfl)
theorem ev_nt60 {l : Launch} {A : Nat → Prop} {ex : Nat → Value} : ev_TabXQ2 l A (ev_XT A ex) ev_y ev_b ev_nL ev_ws ev_cm ev_sm ev_xn 60 ev_m60 := ev_nothr2 (t := fun E => [ev_r60_0 E, ev_r60_1 E, ev_r60_2 E, ev_r60_3 E]) (fun _ => rfl) (fun _ => rfl)
theorem ev_nt61 {l : Launch} {A : Nat → Prop} {ex : Nat → Value} : ev_TabXQ2 l A (ev_XT A ex) ev_y ev_b ev_nL ev_ws ev_cm ev_sm ev_xn 61 ev_m61 := ev_nothr2 (t := fun E => [ev_r61_0 E, ev_r61_1 E, ev_r61_2 E, ev_r61_3 E, ev_r61_4 E, ev_r61_5 E, ev_r61_6 E, ev_r61_7 E, ev_r61_8 E, ev_r61_9 E, ev_r61_10 E]) (fun _ => rfl) (fun _ => rfl)
theorem ev_nt62 {l : Launch} {A : Nat → Prop} {ex : Nat → Value} : ev_TabXQ2 l A (ev_XT A ex) ev_y ev_b ev_nL ev_ws ev_cm ev_sm ev_xn 62 ev_m62 := ev_nothr2 (t := fun E => [ev_r62_0 E, ev_r62_1 E]) (fun _ => rfl) (fun _ => rfl)
theorem ev_nt63 {l : Launch} {A : Nat → Prop} {ex : Nat → Value} : ev_TabXQ2 l A (ev_XT A ex) ev_y ev_b ev_nL ev_ws ev_cm ev_sm ev_xn 63 ev_m63 := ev_nothr2 (t := fun E => [ev_r63_0 E, ev_r63_1 E, ev_r63_2 E, ev_r63_3 E]) (fun _ => rfl) (fun _ => rfl)
theorem ev_nt64 {l : Launch} {A : Nat → Prop} {ex : Nat → Value} : ev_TabXQ2 l A (ev_XT A ex) ev_y ev_b ev_nL ev_ws ev_cm ev_sm ev_xn 64 ev_m64 := ev_nothr2 (t := fun E => [ev_r64_0 E, ev_r64_1 E, ev_r64_2 E]) (fun _ => rfl) (fun _ => rfl)
theorem ev_nt65 {l : Launch} {A : Nat → Prop} {ex : Nat → Value} : ev_TabXQ2 l A (ev_XT A ex) ev_y ev_b ev_nL ev_ws ev_cm ev_sm ev_xn 65 ev_m65 := ev_nothr2 (t := fun E => [ev_r65_0 E, ev_r65_1 E, ev_r65_2 E, ev_r65_3 E, ev_r65_4 E, ev_r65_5 E, ev_r65_6 E, ev_r65_7 E]) (fun _ => rfl) (fun _ => rfl)
theorem ev_nt66 {l : Launch} {A : Nat → Prop} {ex : Nat → Value} : ev_TabXQ2 l A (ev_XT A ex) ev_y ev_b ev_nL ev_ws ev_cm ev_sm ev_xn 66 ev_m66 := ev_nothr2 (t := fun E => [ev_r66_0 E, ev_r66_1 E]) (fun _ => rfl) (fun _ => rfl)
theorem ev_nt74 {l : Launch} {A : Nat → Prop} {ex : Nat → Value} : ev_TabXQ2 l A (ev_XT A ex) ev_y ev_b ev_nL ev_ws ev_cm ev_sm ev_xn 74 ev_m74 := ev_nothr2 (t := fun E => [ev_r74_0 E, ev_r74_1 E, ev_r74_2 E, ev_r74_3 E, ev_r74_4 E, ev_r74_5 E, ev_r74_6 E, ev_r74_7 E, ev_r74_8 E, ev_r74_9 E, ev_r74_10 E, ev_r74_11 E, ev_r74_12 E, ev_r74_13 E, ev_r74_14 E, ev_r74_15 E, ev_r74_16 E, ev_r74_17 E, ev_r74_18 E, ev_r74_19 E, ev_r74_20 E, ev_r74_21 E, ev_r74_22 E, ev_r74_23 E, ev_r74_24 E, ev_r74_25 E, ev_r74_26 E, ev_r74_27 E, ev_r74_28 E, ev_r74_29 E, ev_r74_30 E, ev_r74_31 E, ev_r74_32 E, ev_r74_33 E, ev_r74_34 E, ev_r74_35 E, ev_r74_36 E]) (fun _ => rfl) (fun _ => rfl)
theorem ev_nt75 {l : Launch} {A : Nat → Prop} {ex : Nat → Value} : ev_TabXQ2 l A (ev_XT A ex) ev_y ev_b ev_nL ev_ws ev_cm ev_sm ev_xn 75 ev_m75 := ev_nothr2 (t := fun E => [ev_r75_0 E, ev_r75_1 E, ev_r75_2 E, ev_r75_3 E, [], [], [], [], [], ev_r75_9 E, ev_r75_10 E, ev_r75_11 E, ev_r75_12 E]) (fun _ => rfl) (fun _ => rfl)
theorem ev_nt76 {l : Launch} {A : Nat → Prop} {ex : Nat → Value} : ev_TabXQ2 l A (ev_XT A ex) ev_y ev_b ev_nL ev_ws ev_cm ev_sm ev_xn 76 ev_m76 := ev_nothr2 (t := fun E => [ev_r76_0 E, ev_r76_1 E, ev_r76_2 E, ev_r76_3 E, ev_r76_4 E]) (fun _ => rfl) (fun _ => rfl)
theorem ev_nt77 {l : Launch} {A : Nat → Prop} {ex : Nat → Value} : ev_TabXQ2 l A (ev_XT A ex) ev_y ev_b ev_nL ev_ws ev_cm ev_sm ev_xn 77 ev_m77 := ev_nothr2 (t := fun E => [ev_r77_0 E, ev_r77_1 E, ev_r77_2 E, ev_r77_3 E, ev_r77_4 E, ev_r77_5 E, ev_r77_6 E, ev_r77_7 E, ev_r77_8 E, ev_r77_9 E]) (fun _ => rfl) (fun _ => rfl)
theorem ev_nt78 {l : Launch} {A : Nat → Prop} {ex : Nat → Value} : ev_TabXQ2 l A (ev_XT A ex) ev_y ev_b ev_nL ev_ws ev_cm ev_sm ev_xn 78 ev_m78 := ev_nothr2 (t := fun E => [ev_r78_0 E, ev_r78_1 E, ev_r78_2 E, ev_r78_3 E, ev_r78_4 E, ev_r78_5 E, ev_r78_6 E]) (fun _ => rfl) (fun _ => rfl)
theorem ev_nt79 {l : Launch} {A : Nat → Prop} {ex : Nat → Value} : ev_TabXQ2 l A (ev_XT A ex) ev_y ev_b ev_nL ev_ws ev_cm ev_sm ev_xn 79 ev_m79 := ev_nothr2 (t := fun E => [ev_r79_0 E, ev_r79_1 E, ev_r79_2 E]) (fun _ => rfl) (fun _ => rfl)
theorem ev_nt80 {l : Launch} {A : Nat → Prop} {ex : Nat → Value} : ev_TabXQ2 l A (ev_XT A ex) ev_y ev_b ev_nL ev_ws ev_cm ev_sm ev_xn 80 ev_m80 := ev_nothr2 (t := fun E => [ev_r80_0 E, [], [], [], [], [], ev_r80_6 E, ev_r80_7 E, ev_r80_8 E, ev_r80_9 E, ev_r80_10 E, ev_r80_11 E, ev_r80_12 E, ev_r80_13 E, ev_r80_14 E, ev_r80_15 E, ev_r80_16 E]) (fun _ => rfl) (fun _ => rfl)
theorem ev_nt81 {l : Launch} {A : Nat → Prop} {ex : Nat → Value} : ev_TabXQ2 l A (ev_XT A ex) ev_y ev_b ev_nL ev_ws ev_cm ev_sm ev_xn 81 ev_m81 := ev_nothr2 (t := fun E => [ev_r81_0 E, ev_r81_1 E, ev_r81_2 E]) (fun _ => rfl) (fun _ => rfl)
theorem ev_nt82 {l : Launch} {A : Nat → Prop} {ex : Nat → Value} : ev_TabXQ2 l A (ev_XT A ex) ev_y ev_b ev_nL ev_ws ev_cm ev_sm ev_xn 82 ev_m82 := ev_nothr2 (t := fun E => [ev_r82_0 E, ev_r82_1 E, ev_r82_2 E, ev_r82_3 E]) (fun _ => rfl) (fun _ => rfl)
theorem ev_nt83 {l : Launch} {A : Nat → Prop} {ex : Nat → Value} : ev_TabXQ2 l A (ev_XT A ex) ev_y ev_b ev_nL ev_ws ev_cm ev_sm ev_xn 83 ev_m83 := ev_nothr2 (t := fun E => [ev_r83_0 E, ev_r83_1 E]) (fun _ => rfl) (fun _ => rfl)
theorem ev_nt84 {l : Launch} {A : Nat → Prop} {ex : Nat → Value} : ev_TabXQ2 l A (ev_XT A ex) ev_y ev_b ev_nL ev_ws ev_cm ev_sm ev_xn 84 ev_m84 := ev_nothr2 (t := fun E => [ev_r84_0 E, ev_r84_1 E, ev_r84_2 E, ev_r84_3 E]) (fun _ => rfl) (fun _ => rfl)
theorem ev_nt85 {l : Launch} {A : Nat → Prop} {ex : Nat → Value} : ev_TabXQ2 l A (ev_XT A ex) ev_y ev_b ev_nL ev_ws ev_cm ev_sm ev_xn 85 ev_m85 := ev_nothr2 (t := fun E => [ev_r85_0 E, ev_r85_1 E, ev_r85_2 E, ev_r85_3 E]) (fun _ => rfl) (fun _ => rfl)
theorem ev_nt86 {l : Launch} {A : Nat → Prop} {ex : Nat → Value} : ev_TabXQ2 l A (ev_XT A ex) ev_y ev_b ev_nL ev_ws ev_cm ev_sm ev_xn 86 ev_m86 := ev_nothr2 (t := fun E => [ev_r86_0 E, ev_r86_1 E]) (fun _ => rfl) (fun _ => rfl)
theorem ev_nt87 {l : Launch} {A : Nat → Prop} {ex : Nat → Value} : ev_TabXQ2 l A (ev_XT A ex) ev_y ev_b ev_nL ev_ws ev_cm ev_sm ev_xn 87 ev_m87 := ev_nothr2 (t := fun E => [ev_r87_0 E, [], ev_r87_2 E]) (fun _ => rfl) (fun _ => rfl)
theorem ev_nt88 {l : Launch} {A : Nat → Prop} {ex : Nat → Value} : ev_TabXQ2 l A (ev_XT A ex) ev_y ev_b ev_nL ev_ws ev_cm ev_sm ev_xn 88 ev_m88 := ev_nothr2 (t := fun E => [ev_r88_0 E, ev_r88_1 E]) (fun _ => rfl) (fun _ => rfl)
theorem ev_nt89 {l : Launch} {A : Nat → Prop} {ex : Nat → Value} : ev_TabXQ2 l A (ev_XT A ex) ev_y ev_b ev_nL ev_ws ev_cm ev_sm ev_xn 89 ev_m89 := ev_nothr2 (t := fun E => [ev_r89_0 E, ev_r89_1 E, ev_r89_2 E]) (fun _ => rfl) (fun _ => rfl)
theorem ev_nt90 {l : Launch} {A : Nat → Prop} {ex : Nat → Value} : ev_TabXQ2 l A (ev_XT A ex) ev_y ev_b ev_nL ev_ws ev_cm ev_sm ev_xn 90 ev_m90 := ev_nothr2 (t := fun E => [ev_r90_0 E, ev_r90_1 E, ev_r90_2 E]) (fun _ => rfl) (fun _ => rfl)
theorem ev_nt91 {l : Launch} {A : Nat → Prop} {ex : Nat → Value} : ev_TabXQ2 l A (ev_XT A ex) ev_y ev_b ev_nL ev_ws ev_cm ev_sm ev_xn 91 ev_m91 := ev_nothr2 (t := fun E => [ev_r91_0 E, ev_r91_1 E]) (fun _ => rfl) (fun _ => rfl)
theorem ev_nt92 {l : Launch} {A : Nat → Prop} {ex : Nat → Value} : ev_TabXQ2 l A (ev_XT A ex) ev_y ev_b ev_nL ev_ws ev_cm ev_sm ev_xn 92 ev_m92 := ev_nothr2 (t := fun E => [ev_r92_0 E, ev_r92_1 E, ev_r92_2 E, ev_r92_3 E, ev_r92_4 E, ev_r92_5 E, ev_r92_6 E, [], ev_r92_8 E, ev_r92_9 E, ev_r92_10 E, ev_r92_11 E, ev_r92_12 E]) (fun _ => rfl) (fun _ => rfl)
theorem ev_nt93 {l : Launch} {A : Nat → Prop} {ex : Nat → Value} : ev_TabXQ2 l A (ev_XT A ex) ev_y ev_b ev_nL ev_ws ev_cm ev_sm ev_xn 93 ev_m93 := ev_nothr2 (t := fun E => [ev_r93_0 E, ev_r93_1 E, ev_r93_2 E, ev_r93_3 E, ev_r93_4 E]) (fun _ => rfl) (fun _ => rfl)
theorem ev_nt94 {l : Launch} {A : Nat → Prop} {ex : Nat → Value} : ev_TabXQ2 l A (ev_XT A ex) ev_y ev_b ev_nL ev_ws ev_cm ev_sm ev_xn 94 ev_m94 := ev_nothr2 (t := fun E => [ev_r94_0 E, ev_r94_1 E, ev_r94_2 E, ev_r94_3 E, ev_r94_4 E]) (fun _ => rfl) (fun _ => rfl)
theorem ev_nt95 {l : Launch} {A : Nat → Prop} {ex : Nat → Value} : ev_TabXQ2 l A (ev_XT A ex) ev_y ev_b ev_nL ev_ws ev_cm ev_sm ev_xn 95 ev_m95 := ev_nothr2 (t := fun E => [ev_r95_0 E]) (fun _ => rfl) (fun _ => rfl)
theorem ev_nt96 {l : Launch} {A : Nat → Prop} {ex : Nat → Value} : ev_TabXQ2 l A (ev_XT A ex) ev_y ev_b ev_nL ev_ws ev_cm ev_sm ev_xn 96 ev_m96 := ev_nothr2 (t := fun E => [ev_r96_0 E, ev_r96_1 E, ev_r96_2 E]) (fun _ => rfl) (fun _ => rfl)
theorem ev_nt97 {l : Launch} {A : Nat → Prop} {ex : Nat → Value} : ev_TabXQ2 l A (ev_XT A ex) ev_y ev_b ev_nL ev_ws ev_cm ev_sm ev_xn 97 ev_m97 := ev_nothr2 (t := fun E => [ev_r97_0 E, ev_r97_1 E, ev_r97_2 E]) (fun _ => rfl) (fun _ => rfl)
theorem ev_nt98 {l : Launch} {A : Nat → Prop} {ex : Nat → Value} : ev_TabXQ2 l A (ev_XT A ex) ev_y ev_b ev_nL ev_ws ev_cm ev_sm ev_xn 98 ev_m98 := ev_nothr2 (t := fun E => [ev_r98_0 E, ev_r98_1 E, ev_r98_2 E, ev_r98_3 E, ev_r98_4 E, ev_r98_5 E, ev_r98_6 E, ev_r98_7 E, [], ev_r98_9 E, ev_r98_10 E]) (fun _ => rfl) (fun _ => rfl)
theorem ev_nt99 {l : Launch} {A : Nat → Prop} {ex : Nat → Value} : ev_TabXQ2 l A (ev_XT A ex) ev_y ev_b ev_nL ev_ws ev_cm ev_sm ev_xn 99 ev_m99 := ev_nothr2 (t := fun E => [ev_r99_0 E, ev_r99_1 E]) (fun _ => rfl) (fun _ => rfl)
theorem ev_nt100 {l : Launch} {A : Nat → Prop} {ex : Nat → Value} : ev_TabXQ2 l A (ev_XT A ex) ev_y ev_b ev_nL ev_ws ev_cm ev_sm ev_xn 100 ev_m100 := ev_nothr2 (t := fun E => [ev_r100_0 E]) (fun _ => rfl) (fun _ => rfl)
theorem ev_nt101 {l : Launch} {A : Nat → Prop} {ex : Nat → Value} : ev_TabXQ2 l A (ev_XT A ex) ev_y ev_b ev_nL ev_ws ev_cm ev_sm ev_xn 101 ev_m101 := ev_nothr2 (t := fun E => [ev_r101_0 E]) (fun _ => rfl) (fun _ => rfl)
theorem ev_nt102 {l : Launch} {A : Nat → Prop} {ex : Nat → Value} : ev_TabXQ2 l A (ev_XT A ex) ev_y ev_b ev_nL ev_ws ev_cm ev_sm ev_xn 102 ev_m102 := ev_nothr2 (t := fun E => [ev_r102_0 E, ev_r102_1 E, ev_r102_2 E, ev_r102_3 E, ev_r102_4 E]) (fun _ => rfl) (fun _ => rfl)
theorem ev_nt103 {l : Launch} {A : Nat → Prop} {ex : Nat → Value} : ev_TabXQ2 l A (ev_XT A ex) ev_y ev_b ev_nL ev_ws ev_cm ev_sm ev_xn 103 ev_m103 := ev_nothr2 (t := fun E => [ev_r103_0 E]) (fun _ => rfl) (fun _ => rfl)
theorem ev_nt104 {l : Launch} {A : Nat → Prop} {ex : Nat → Value} : ev_TabXQ2 l A (ev_XT A ex) ev_y ev_b ev_nL ev_ws ev_cm ev_sm ev_xn 104 ev_m104 := ev_nothr2 (t := fun E => [ev_r104_0 E, ev_r104_1 E, ev_r104_2 E]) (fun _ => rfl) (fun _ => rfl)
theorem ev_nt105 {l : Launch} {A : Nat → Prop} {ex : Nat → Value} : ev_TabXQ2 l A (ev_XT A ex) ev_y ev_b ev_nL ev_ws ev_cm ev_sm ev_xn 105 ev_m105 := ev_nothr2 (t := fun E => [ev_r105_0 E]) (fun _ => rfl) (fun _ => rfl)
theorem ev_nt106 {l : Launch} {A : Nat → Prop} {ex : Nat → Value} : ev_TabXQ2 l A (ev_XT A ex) ev_y ev_b ev_nL ev_ws ev_cm ev_sm ev_xn 106 ev_m106 := ev_nothr2 (t := fun E => [ev_r106_0 E, ev_r106_1 E, ev_r106_2 E, ev_r106_3 E, ev_r106_4 E]) (fun _ => rfl) (fun _ => rfl)
theorem ev_nt107 {l : Launch} {A : Nat → Prop} {ex : Nat → Value} : ev_TabXQ2 l A (ev_XT A ex) ev_y ev_b ev_nL ev_ws ev_cm ev_sm ev_xn 107 ev_m107 := ev_nothr2 (t := fun E => [ev_r107_0 E, ev_r107_1 E]) (fun _ => rfl) (fun _ => rfl)
theorem ev_nt108 {l : Launch} {A : Nat → Prop} {ex : Nat → Value} : ev_TabXQ2 l A (ev_XT A ex) ev_y ev_b ev_nL ev_ws ev_cm ev_sm ev_xn 108 ev_m108 := ev_nothr2 (t := fun E => [ev_r108_0 E, [], [], [], [], [], [], [], [], [], [], [], [], ev_r108_13 E]) (fun _ => rfl) (fun _ => rfl)
theorem ev_nt109 {l : Launch} {A : Nat → Prop} {ex : Nat → Value} : ev_TabXQ2 l A (ev_XT A ex) ev_y ev_b ev_nL ev_ws ev_cm ev_sm ev_xn 109 ev_m109 := ev_nothr2 (t := fun E => [ev_r109_0 E, ev_r109_1 E, ev_r109_2 E]) (fun _ => rfl) (fun _ => rfl)
theorem ev_nt110 {l : Launch} {A : Nat → Prop} {ex : Nat → Value} : ev_TabXQ2 l A (ev_XT A ex) ev_y ev_b ev_nL ev_ws ev_cm ev_sm ev_xn 110 ev_m110 := ev_nothr2 (t := fun E => [ev_r110_0 E, ev_r110_1 E]) (fun _ => rfl) (fun _ => rfl)
theorem ev_nt111 {l : Launch} {A : Nat → Prop} {ex : Nat → Value} : ev_TabXQ2 l A (ev_XT A ex) ev_y ev_b ev_nL ev_ws ev_cm ev_sm ev_xn 111 ev_m111 := ev_nothr2 (t := fun E => [ev_r111_0 E, ev_r111_1 E, [], ev_r111_3 E]) (fun _ => rfl) (fun _ => rfl)
theorem ev_nt112 {l : Launch} {A : Nat → Prop} {ex : Nat → Value} : ev_TabXQ2 l A (ev_XT A ex) ev_y ev_b ev_nL ev_ws ev_cm ev_sm ev_xn 112 ev_m112 := ev_nothr2 (t := fun E => [ev_r112_0 E, ev_r112_1 E, [], [], [], ev_r112_5 E, ev_r112_6 E, ev_r112_7 E]) (fun _ => rfl) (fun _ => rfl)
theorem ev_nt113 {l : Launch} {A : Nat → Prop} {ex : Nat → Value} : ev_TabXQ2 l A (ev_XT A ex) ev_y ev_b ev_nL ev_ws ev_cm ev_sm ev_xn 113 ev_m113 := ev_nothr2 (t := fun E => [ev_r113_0 E, ev_r113_1 E, [], [], [], ev_r113_5 E, ev_r113_6 E, ev_r113_7 E, [], [], ev_r113_10 E, ev_r113_11 E, ev_r113_12 E, [], [], [], [], [], [], [], ev_r113_20 E, ev_r113_21 E]) (fun _ => rfl) (fun _ => rfl)
theorem ev_nt114 {l : Launch} {A : Nat → Prop} {ex : Nat → Value} : ev_TabXQ2 l A (ev_XT A ex) ev_y ev_b ev_nL ev_ws ev_cm ev_sm ev_xn 114 ev_m114 := ev_nothr2 (t := fun E => [ev_r114_0 E, ev_r114_1 E]) (fun _ => rfl) (fun _ => rfl)
theorem ev_nt115 {l : Launch} {A : Nat → Prop} {ex : Nat → Value} : ev_TabXQ2 l A (ev_XT A ex) ev_y ev_b ev_nL ev_ws ev_cm ev_sm ev_xn 115 ev_m115 := ev_nothr2 (t := fun E => [ev_r115_0 E, ev_r115_1 E]) (fun _ => rfl) (fun _ => rfl)
theorem ev_nt116 {l : Launch} {A : Nat → Prop} {ex : Nat → Value} : ev_TabXQ2 l A (ev_XT A ex) ev_y ev_b ev_nL ev_ws ev_cm ev_sm ev_xn 116 ev_m116 := ev_nothr2 (t := fun E => [ev_r116_0 E]) (fun _ => rfl) (fun _ => rfl)
theorem ev_nt117 {l : Launch} {A : Nat → Prop} {ex : Nat → Value} : ev_TabXQ2 l A (ev_XT A ex) ev_y ev_b ev_nL ev_ws ev_cm ev_sm ev_xn 117 ev_m117 := ev_nothr2 (t := fun E => [ev_r117_0 E, ev_r117_1 E, ev_r117_2 E, ev_r117_3 E, ev_r117_4 E]) (fun _ => rfl) (fun _ => rfl)
theorem ev_nt118 {l : Launch} {A : Nat → Prop} {ex : Nat → Value} : ev_TabXQ2 l A (ev_XT A ex) ev_y ev_b ev_nL ev_ws ev_cm ev_sm ev_xn 118 ev_m118 := ev_nothr2 (t := fun E => [ev_r118_0 E, ev_r118_1 E]) (fun _ => rfl) (fun _ => rfl)
theorem ev_nt119 {l : Launch} {A : Nat → Prop} {ex : Nat → Value} : ev_TabXQ2 l A (ev_XT A ex) ev_y ev_b ev_nL ev_ws ev_cm ev_sm ev_xn 119 ev_m119 := ev_nothr2 (t := fun E => [ev_r119_0 E, ev_r119_1 E, ev_r119_2 E]) (fun _ => rfl) (fun _ => rfl)
theorem ev_nt120 {l : Launch} {A : Nat → Prop} {ex : Nat → Value} : ev_TabXQ2 l A (ev_XT A ex) ev_y ev_b ev_nL ev_ws ev_cm ev_sm ev_xn 120 ev_m120 := ev_nothr2 (t := fun E => [ev_r120_0 E, ev_r120_1 E, ev_r120_2 E]) (fun _ => rfl) (fun _ => rfl)
theorem ev_nt121 {l : Launch} {A : Nat → Prop} {ex : Nat → Value} : ev_TabXQ2 l A (ev_XT A ex) ev_y ev_b ev_nL ev_ws ev_cm ev_sm ev_xn 121 ev_m121 := ev_nothr2 (t := fun E => [ev_r121_0 E, [], ev_r121_2 E, ev_r121_3 E]) (fun _ => rfl) (fun _ => rfl)
theorem ev_nt122 {l : Launch} {A : Nat → Prop} {ex : Nat → Value} : ev_TabXQ2 l A (ev_XT A ex) ev_y ev_b ev_nL ev_ws ev_cm ev_sm ev_xn 122 ev_m122 := ev_nothr2 (t := fun E => [ev_r122_0 E]) (fun _ => rfl) (fun _ => rfl)
theorem ev_nt123 {l : Launch} {A : Nat → Prop} {ex : Nat → Value} : ev_TabXQ2 l A (ev_XT A ex) ev_y ev_b ev_nL ev_ws ev_cm ev_sm ev_xn 123 ev_m123 := ev_nothr2 (t := fun E => [ev_r123_0 E]) (fun _ => rfl) (fun _ => rfl)
theorem ev_nt124 {l : Launch} {A : Nat → Prop} {ex : Nat → Value} : ev_TabXQ2 l A (ev_XT A ex) ev_y ev_b ev_nL ev_ws ev_cm ev_sm ev_xn 124 ev_m124 := ev_nothr2 (t := fun E => [ev_r124_0 E]) (fun _ => rfl) (fun _ => rfl)
theorem ev_nt125 {l : Launch} {A : Nat → Prop} {ex : Nat → Value} : ev_TabXQ2 l A (ev_XT A ex) ev_y ev_b ev_nL ev_ws ev_cm ev_sm ev_xn 125 ev_m125 := ev_nothr2 (t := fun E => [ev_r125_0 E, ev_r125_1 E]) (fun _ => rfl) (fun _ => rfl)
theorem ev_nt126 {l : Launch} {A : Nat → Prop} {ex : Nat → Value} : ev_TabXQ2 l A (ev_XT A ex) ev_y ev_b ev_nL ev_ws ev_cm ev_sm ev_xn 126 ev_m126 := ev_nothr2 (t := fun E => [ev_r126_0 E]) (fun _ => rfl) (fun _ => rfl)
theorem ev_nt127 {l : Launch} {A : Nat → Prop} {ex : Nat → Value} : ev_TabXQ2 l A (ev_XT A ex) ev_y ev_b ev_nL ev_ws ev_cm ev_sm ev_xn 127 ev_m127 := ev_nothr2 (t := fun E => [ev_r127_0 E]) (fun _ => rfl) (fun _ => rfl)
theorem ev_nt128 {l : Launch} {A : Nat → Prop} {ex : Nat → Value} : ev_TabXQ2 l A (ev_XT A ex) ev_y ev_b ev_nL ev_ws ev_cm ev_sm ev_xn 128 ev_m128 := ev_nothr2 (t := fun E => [ev_r128_0 E]) (fun _ => rfl) (fun _ => rfl)
theorem ev_nt129 {l : Launch} {A : Nat → Prop} {ex : Nat → Value} : ev_TabXQ2 l A (ev_XT A ex) ev_y ev_b ev_nL ev_ws ev_cm ev_sm ev_xn 129 ev_m129 := ev_nothr2 (t := fun E => [ev_r129_0 E]) (fun _ => rfl) (fun _ => rfl)
theorem ev_nt130 {l : Launch} {A : Nat → Prop} {ex : Nat → Value} : ev_TabXQ2 l A (ev_XT A ex) ev_y ev_b ev_nL ev_ws ev_cm ev_sm ev_xn 130 ev_m130 := ev_nothr2 (t := fun E => [ev_r130_0 E]) (fun _ => rfl) (fun _ => rfl)
theorem ev_nt131 {l : Launch} {A : Nat → Prop} {ex : Nat → Value} : ev_TabXQ2 l A (ev_XT A ex) ev_y ev_b ev_nL ev_ws ev_cm ev_sm ev_xn 131 ev_m131 := ev_nothr2 (t := fun E => [ev_r131_0 E, ev_r131_1 E]) (fun _ => rfl) (fun _ => rfl)
theorem ev_txall {l : Launch} {D : va_G} {A : Nat → Prop} {ex : Nat → Value} (hl0 : l.stackTraces = false) : ev_TabX2 l D ev_cl A ex ev_ty (ev_XT A ex) ev_y ev_b ev_nL ev_ws ev_cm ev_sm ev_mc ev_xn :=
  ev_tabX_of2 (ms := ev_ms) (fun mid E pc => rfl) (ev_ac (ev_nt0) (ev_ac (ev_tx1 hl0) (ev_ac (ev_nt2) (ev_ac (ev_nt3) (ev_ac (ev_nt4) (ev_ac (ev_nt5) (ev_ac (ev_nt6) (ev_ac (ev_nt7) (ev_ac (ev_tx8 hl0) (ev_ac (ev_tx9 hl0) (ev_ac (ev_tx10 hl0) (ev_ac (ev_nt11) (ev_ac (ev_tx12 hl0) (ev_ac (ev_nt13) (ev_ac (ev_tx14 hl0) (ev_ac (ev_nt15) (ev_ac (ev_nt16) (ev_ac (ev_nt17) (ev_ac (ev_nt18) (ev_ac (ev_nt19) (ev_ac (ev_nt20) (ev_ac (ev_nt21) (ev_ac (ev_nt22) (ev_ac (ev_nt23) (ev_ac (ev_nt24) (ev_ac (ev_nt25) (ev_ac (ev_nt26) (ev_ac (ev_nt27) (ev_ac (ev_nt28) (ev_ac (ev_nt29) (ev_ac (ev_nt30) (ev_ac (ev_nt31) (ev_ac (ev_nt32) (ev_ac (ev_nt33) (ev_ac (ev_nt34) (ev_ac (ev_nt35) (ev_ac (ev_nt36) (ev_ac (ev_nt37) (ev_ac (ev_nt38) (ev_ac (ev_nt39) (ev_ac (ev_nt40) (ev_ac (ev_nt41) (ev_ac (ev_nt42) (ev_ac (ev_nt43) (ev_ac (ev_nt44) (ev_ac (ev_nt45) (ev_ac (ev_nt46) (ev_ac (ev_nt47) (ev_ac (ev_nt48) (ev_ac (ev_nt49) (ev_ac (ev_nt50) (ev_ac (ev_nt51) (ev_ac (ev_nt52) (ev_ac (ev_nt53) (ev_ac (ev_nt54) (ev_ac (ev_nt55) (ev_ac (ev_nt56) (ev_ac (ev_nt57) (ev_ac (ev_nt58) (ev_ac (ev_nt59) (ev_ac (ev_nt60) (ev_ac (ev_nt61) (ev_ac (ev_nt62) (ev_ac (ev_nt63) (ev_ac (ev_nt64) (ev_ac (ev_nt65) (ev_ac (ev_nt66) (ev_ac (ev_xno2 (fun _ _ => rfl)) (ev_ac (ev_xno2 (fun _ _ => rfl)) (ev_ac (ev_xno2 (fun _ _ => rfl)) (ev_ac (ev_xno2 (fun _ _ => rfl)) (ev_ac (ev_xno2 (fun _ _ => rfl)) (ev_ac (ev_xno2 (fun _ _ => rfl)) (ev_ac (ev_xno2 (fun _ _ => rfl)) (ev_ac (ev_nt74) (ev_ac (ev_nt75) (ev_ac (ev_nt76) (ev_ac (ev_nt77) (ev_ac (ev_nt78) (ev_ac (ev_nt79) (ev_ac (ev_nt80) (ev_ac (ev_nt81) (ev_ac (ev_nt82) (ev_ac (ev_nt83) (ev_ac (ev_nt84) (ev_ac (ev_nt85) (ev_ac (ev_nt86) (ev_ac (ev_nt87) (ev_ac (ev_nt88) (ev_ac (ev_nt89) (ev_ac (ev_nt90) (ev_ac (ev_nt91) (ev_ac (ev_nt92) (ev_ac (ev_nt93) (ev_ac (ev_nt94) (ev_ac (ev_nt95) (ev_ac (ev_nt96) (ev_ac (ev_nt97) (ev_ac (ev_nt98) (ev_ac (ev_nt99) (ev_ac (ev_nt100) (ev_ac (ev_nt101) (ev_ac (ev_nt102) (ev_ac (ev_nt103) (ev_ac (ev_nt104) (ev_ac (ev_nt105) (ev_ac (ev_nt106) (ev_ac (ev_nt107) (ev_ac (ev_nt108) (ev_ac (ev_nt109) (ev_ac (ev_nt110) (ev_ac (ev_nt111) (ev_ac (ev_nt112) (ev_ac (ev_nt113) (ev_ac (ev_nt114) (ev_ac (ev_nt115) (ev_ac (ev_nt116) (ev_ac (ev_nt117) (ev_ac (ev_nt118) (ev_ac (ev_nt119) (ev_ac (ev_nt120) (ev_ac (ev_nt121) (ev_ac (ev_nt122) (ev_ac (ev_nt123) (ev_ac (ev_nt124) (ev_ac (ev_nt125) (ev_ac (ev_nt126) (ev_ac (ev_nt127) (ev_ac (ev_nt128) (ev_ac (ev_nt129) (ev_ac (ev_nt130) (ev_ac (ev_nt131) (ev_az)))))))))))))))))))))))))))))))))))))))))))))))))))))))))))))))))))))))))))))))))))))))))))))))))))))))))))))))))))))))))))))))))))))
