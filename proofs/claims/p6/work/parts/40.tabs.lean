noncomputable section KV40_tabs
/-! EVERY METHOD (printed by wip/ev2/pf3.py). -/
theorem ev_t0 {l : Launch} {D : va_G} {A : Nat → Prop} {ex : Nat → Value} : k_TbQ l D ev_cl A ex ev_ty (ev_XT A ex) ev_y ev_b ev_nL ev_ret ev_ws ev_cm ev_sm 0 150 0 ev_m0 := by
  refine Or.inr ⟨by decide +kernel, ⟨ev_W, Or.inl rfl⟩, fun d E hd6 hE p e R s m args below meth c Q ad0 hx hb hml hname hown hts hXs hA hRf0 hR0 hRl hRc hRs => ?_⟩
  have hRf := hRf0.imp_right And.right
  have hR1 : 1 ≤ R.frames := hR0.resolve_left (by decide)
  have S : CallFix p m c cX12_init 2 s args ev_W RX12 := ⟨hx, hb, hml, hown, fun w hw => hts w (List.mem_cons_of_mem _ hw)⟩
  have K := fun (pc : Nat) (x : ev_I ⊕ Nat) => ev_code_at (P := fun pc f => ev_Sim p l e R s m args below meth c Q 2 D ev_cl A s.heap ex ad0 ev_ty pc f) (K := fun pc k => ev_stop k cX12_init pc none) (t := [ev_r0_0 E, ev_r0_1 E, ev_r0_2 E, ev_r0_3 E, ev_r0_4 E, ev_r0_5 E, ev_r0_6 E, ev_r0_7 E, ev_r0_8 E]) ⟨ev_h0_0 hRf hR1 hRl hRc hRs hE hXs hA S hname, ⟨ev_h0_1 hRf hR1 hRl hRc hRs hE hXs hA S hname, ⟨ev_h0_2 hRf hR1 hRl hRc hRs hE hXs hA S hname, ⟨ev_h0_3 hRf hR1 hRl hRc hRs hE hXs hA S hname, ⟨ev_h0_4 hRf hR1 hRl hRc hRs hE hXs hA S hname, ⟨ev_h0_5 hRf hR1 hRl hRc hRs hE hXs hA S hname, ⟨ev_h0_6 hRf hR1 hRl hRc hRs hE hXs hA S hname, ⟨ev_h0_7 hRf hR1 hRl hRc hRs hE hXs hA S hname, ⟨ev_h0_8 hRf hR1 hRl hRc hRs hE hXs hA S hname, trivial⟩⟩⟩⟩⟩⟩⟩⟩⟩ (pc := pc) (x := x)
  exact ⟨fun pc f hf => K pc _ hf, fun pc k hk => K pc _ hk⟩
theorem ev_t1 {l : Launch} {D : va_G} {A : Nat → Prop} {ex : Nat → Value} : k_TbQ l D ev_cl A ex ev_ty (ev_XT A ex) ev_y ev_b ev_nL ev_ret ev_ws ev_cm ev_sm 0 150 1 ev_m1 := by
  refine Or.inr ⟨by decide +kernel, ⟨ev_W, Or.inl rfl⟩, fun d E hd6 hE p e R s m args below meth c Q ad0 hx hb hml hname hown hts hXs hA hRf0 hR0 hRl hRc hRs => ?_⟩
  have hRf := hRf0.imp_right And.right
  have hR1 : 1 ≤ R.frames := hR0.resolve_left (by decide)
  have S : CallFix p m c cX12_beginsName 1 s args ev_W RX12 := ⟨hx, hb, hml, hown, fun w hw => hts w (List.mem_cons_of_mem _ hw)⟩
  have K := fun (pc : Nat) (x : ev_I ⊕ Nat) => ev_code_at (P := fun pc f => ev_Sim p l e R s m args below meth c Q 1 D ev_cl A s.heap ex ad0 ev_ty pc f) (K := fun pc k => ev_stop k cX12_beginsName pc (some .boolean)) (t := [ev_r1_0 E, ev_r1_1 E, ev_r1_2 E]) ⟨ev_h1_0 hRf hR1 hRl hRc hRs hE hXs hA S hname, ⟨ev_h1_1 hRf hR1 hRl hRc hRs hE hXs hA S hname, ⟨ev_h1_2 hRf hR1 hRl hRc hRs hE hXs hA S hname, trivial⟩⟩⟩ (pc := pc) (x := x)
  exact ⟨fun pc f hf => K pc _ hf, fun pc k hk => K pc _ hk⟩
theorem ev_t2 {l : Launch} {D : va_G} {A : Nat → Prop} {ex : Nat → Value} : k_TbQ l D ev_cl A ex ev_ty (ev_XT A ex) ev_y ev_b ev_nL ev_ret ev_ws ev_cm ev_sm 0 150 2 ev_m2 := by
  refine Or.inr ⟨by decide +kernel, ⟨ev_W, Or.inl rfl⟩, fun d E hd6 hE p e R s m args below meth c Q ad0 hx hb hml hname hown hts hXs hA hRf0 hR0 hRl hRc hRs => ?_⟩
  have hRf := hRf0.imp_right And.right
  have hR1 : 1 ≤ R.frames := hR0.resolve_left (by decide)
  have S : CallFix p m c cX12_feed 6 s args ev_W RX12 := ⟨hx, hb, hml, hown, fun w hw => hts w (List.mem_cons_of_mem _ hw)⟩
  have K := fun (pc : Nat) (x : ev_I ⊕ Nat) => ev_code_at (P := fun pc f => ev_Sim p l e R s m args below meth c Q 6 D ev_cl A s.heap ex ad0 ev_ty pc f) (K := fun pc k => ev_stop k cX12_feed pc (some .int)) (t := [ev_r2_0 E, ev_r2_1 E, ev_r2_2 E, ev_r2_3 E]) ⟨ev_h2_0 hRf hR1 hRl hRc hRs hE hXs hA S hname, ⟨ev_h2_1 hRf hR1 hRl hRc hRs hE hXs hA S hname, ⟨ev_h2_2 hRf hR1 hRl hRc hRs hE hXs hA S hname, ⟨ev_h2_3 hRf hR1 hRl hRc hRs hE hXs hA S hname, trivial⟩⟩⟩⟩ (pc := pc) (x := x)
  exact ⟨fun pc f hf => K pc _ hf, fun pc k hk => K pc _ hk⟩
theorem ev_t3 {l : Launch} {D : va_G} {A : Nat → Prop} {ex : Nat → Value} : k_TbQ l D ev_cl A ex ev_ty (ev_XT A ex) ev_y ev_b ev_nL ev_ret ev_ws ev_cm ev_sm 0 150 3 ev_m3 := by
  refine Or.inr ⟨by decide +kernel, ⟨ev_W, Or.inl rfl⟩, fun d E hd6 hE p e R s m args below meth c Q ad0 hx hb hml hname hown hts hXs hA hRf0 hR0 hRl hRc hRs => ?_⟩
  have hRf := hRf0.imp_right And.right
  have hR1 : 1 ≤ R.frames := hR0.resolve_left (by decide)
  have S : CallFix p m c cX12_feed 6 s args ev_W RX12 := ⟨hx, hb, hml, hown, fun w hw => hts w (List.mem_cons_of_mem _ hw)⟩
  have K := fun (pc : Nat) (x : ev_I ⊕ Nat) => ev_code_at (P := fun pc f => ev_Sim p l e R s m args below meth c Q 6 D ev_cl A s.heap ex ad0 ev_ty pc f) (K := fun pc k => ev_stop k cX12_feed pc (some .int)) (t := [ev_r3_0 E, ev_r3_1 E, ev_r3_2 E, ev_r3_3 E]) ⟨ev_h3_0 hRf hR1 hRl hRc hRs hE hXs hA S hname, ⟨ev_h3_1 hRf hR1 hRl hRc hRs hE hXs hA S hname, ⟨ev_h3_2 hRf hR1 hRl hRc hRs hE hXs hA S hname, ⟨ev_h3_3 hRf hR1 hRl hRc hRs hE hXs hA S hname, trivial⟩⟩⟩⟩ (pc := pc) (x := x)
  exact ⟨fun pc f hf => K pc _ hf, fun pc k hk => K pc _ hk⟩
theorem ev_t4 {l : Launch} {D : va_G} {A : Nat → Prop} {ex : Nat → Value} : k_TbQ l D ev_cl A ex ev_ty (ev_XT A ex) ev_y ev_b ev_nL ev_ret ev_ws ev_cm ev_sm 0 150 4 ev_m4 := by
  refine Or.inr ⟨by decide +kernel, ⟨ev_W, Or.inl rfl⟩, fun d E hd6 hE p e R s m args below meth c Q ad0 hx hb hml hname hown hts hXs hA hRf0 hR0 hRl hRc hRs => ?_⟩
  have hRf := hRf0.imp_right And.right
  have hR1 : 1 ≤ R.frames := hR0.resolve_left (by decide)
  have S : CallFix p m c cX12_feed 6 s args ev_W RX12 := ⟨hx, hb, hml, hown, fun w hw => hts w (List.mem_cons_of_mem _ hw)⟩
  have K := fun (pc : Nat) (x : ev_I ⊕ Nat) => ev_code_at (P := fun pc f => ev_Sim p l e R s m args below meth c Q 6 D ev_cl A s.heap ex ad0 ev_ty pc f) (K := fun pc k => ev_stop k cX12_feed pc (some .int)) (t := [ev_r4_0 E, ev_r4_1 E, ev_r4_2 E, ev_r4_3 E]) ⟨ev_h4_0 hRf hR1 hRl hRc hRs hE hXs hA S hname, ⟨ev_h4_1 hRf hR1 hRl hRc hRs hE hXs hA S hname, ⟨ev_h4_2 hRf hR1 hRl hRc hRs hE hXs hA S hname, ⟨ev_h4_3 hRf hR1 hRl hRc hRs hE hXs hA S hname, trivial⟩⟩⟩⟩ (pc := pc) (x := x)
  exact ⟨fun pc f hf => K pc _ hf, fun pc k hk => K pc _ hk⟩
theorem ev_t5 {l : Launch} {D : va_G} {A : Nat → Prop} {ex : Nat → Value} : k_TbQ l D ev_cl A ex ev_ty (ev_XT A ex) ev_y ev_b ev_nL ev_ret ev_ws ev_cm ev_sm 0 150 5 ev_m5 := by
  refine Or.inr ⟨by decide +kernel, ⟨ev_W, Or.inl rfl⟩, fun d E hd6 hE p e R s m args below meth c Q ad0 hx hb hml hname hown hts hXs hA hRf0 hR0 hRl hRc hRs => ?_⟩
  have hRf := hRf0.imp_right And.right
  have hR1 : 1 ≤ R.frames := hR0.resolve_left (by decide)
  have S : CallFix p m c cX12_feedFour 2 s args ev_W RX12 := ⟨hx, hb, hml, hown, fun w hw => hts w (List.mem_cons_of_mem _ hw)⟩
  have K := fun (pc : Nat) (x : ev_I ⊕ Nat) => ev_code_at (P := fun pc f => ev_Sim p l e R s m args below meth c Q 2 D ev_cl A s.heap ex ad0 ev_ty pc f) (K := fun pc k => ev_stop k cX12_feedFour pc none) (t := [ev_r5_0 E, ev_r5_1 E, ev_r5_2 E, ev_r5_3 E]) ⟨ev_h5_0 hRf hR1 hRl hRc hRs hE hXs hA S hname, ⟨ev_h5_1 hRf hR1 hRl hRc hRs hE hXs hA S hname, ⟨ev_h5_2 hRf hR1 hRl hRc hRs hE hXs hA S hname, ⟨ev_h5_3 hRf hR1 hRl hRc hRs hE hXs hA S hname, trivial⟩⟩⟩⟩ (pc := pc) (x := x)
  exact ⟨fun pc f hf => K pc _ hf, fun pc k hk => K pc _ hk⟩
theorem ev_t6 {l : Launch} {D : va_G} {A : Nat → Prop} {ex : Nat → Value} : k_TbQ l D ev_cl A ex ev_ty (ev_XT A ex) ev_y ev_b ev_nL ev_ret ev_ws ev_cm ev_sm 0 150 6 ev_m6 := by
  refine Or.inr ⟨by decide +kernel, ⟨ev_W, Or.inl rfl⟩, fun d E hd6 hE p e R s m args below meth c Q ad0 hx hb hml hname hown hts hXs hA hRf0 hR0 hRl hRc hRs => ?_⟩
  have hRf := hRf0.imp_right And.right
  have hR1 : 1 ≤ R.frames := hR0.resolve_left (by decide)
  have S : CallFix p m c cX12_feedFour 2 s args ev_W RX12 := ⟨hx, hb, hml, hown, fun w hw => hts w (List.mem_cons_of_mem _ hw)⟩
  have K := fun (pc : Nat) (x : ev_I ⊕ Nat) => ev_code_at (P := fun pc f => ev_Sim p l e R s m args below meth c Q 2 D ev_cl A s.heap ex ad0 ev_ty pc f) (K := fun pc k => ev_stop k cX12_feedFour pc none) (t := [ev_r6_0 E, ev_r6_1 E, ev_r6_2 E, ev_r6_3 E]) ⟨ev_h6_0 hRf hR1 hRl hRc hRs hE hXs hA S hname, ⟨ev_h6_1 hRf hR1 hRl hRc hRs hE hXs hA S hname, ⟨ev_h6_2 hRf hR1 hRl hRc hRs hE hXs hA S hname, ⟨ev_h6_3 hRf hR1 hRl hRc hRs hE hXs hA S hname, trivial⟩⟩⟩⟩ (pc := pc) (x := x)
  exact ⟨fun pc f hf => K pc _ hf, fun pc k hk => K pc _ hk⟩
theorem ev_t7 {l : Launch} {D : va_G} {A : Nat → Prop} {ex : Nat → Value} : k_TbQ l D ev_cl A ex ev_ty (ev_XT A ex) ev_y ev_b ev_nL ev_ret ev_ws ev_cm ev_sm 0 150 7 ev_m7 := by
  refine Or.inr ⟨by decide +kernel, ⟨ev_W, Or.inl rfl⟩, fun d E hd6 hE p e R s m args below meth c Q ad0 hx hb hml hname hown hts hXs hA hRf0 hR0 hRl hRc hRs => ?_⟩
  have hRf := hRf0.imp_right And.right
  have hR1 : 1 ≤ R.frames := hR0.resolve_left (by decide)
  have S : CallFix p m c cX12_feedFour 2 s args ev_W RX12 := ⟨hx, hb, hml, hown, fun w hw => hts w (List.mem_cons_of_mem _ hw)⟩
  have K := fun (pc : Nat) (x : ev_I ⊕ Nat) => ev_code_at (P := fun pc f => ev_Sim p l e R s m args below meth c Q 2 D ev_cl A s.heap ex ad0 ev_ty pc f) (K := fun pc k => ev_stop k cX12_feedFour pc none) (t := [ev_r7_0 E, ev_r7_1 E, ev_r7_2 E, ev_r7_3 E]) ⟨ev_h7_0 hRf hR1 hRl hRc hRs hE hXs hA S hname, ⟨ev_h7_1 hRf hR1 hRl hRc hRs hE hXs hA S hname, ⟨ev_h7_2 hRf hR1 hRl hRc hRs hE hXs hA S hname, ⟨ev_h7_3 hRf hR1 hRl hRc hRs hE hXs hA S hname, trivial⟩⟩⟩⟩ (pc := pc) (x := x)
  exact ⟨fun pc f hf => K pc _ hf, fun pc k hk => K pc _ hk⟩
theorem ev_t8 {l : Launch} {D : va_G} {A : Nat → Prop} {ex : Nat → Value} : k_TbQ l D ev_cl A ex ev_ty (ev_XT A ex) ev_y ev_b ev_nL ev_ret ev_ws ev_cm ev_sm 0 150 8 ev_m8 := by
  refine Or.inr ⟨by decide +kernel, ⟨ev_W, Or.inl rfl⟩, fun d E hd6 hE p e R s m args below meth c Q ad0 hx hb hml hname hown hts hXs hA hRf0 hR0 hRl hRc hRs => ?_⟩
  have hRf := hRf0.imp_right And.right
  have hR1 : 1 ≤ R.frames := hR0.resolve_left (by decide)
  have S : CallFix p m c cX12_holds 4 s args ev_W RX12 := ⟨hx, hb, hml, hown, fun w hw => hts w (List.mem_cons_of_mem _ hw)⟩
  have K := fun (pc : Nat) (x : ev_I ⊕ Nat) => ev_code_at (P := fun pc f => ev_Sim p l e R s m args below meth c Q 4 D ev_cl A s.heap ex ad0 ev_ty pc f) (K := fun pc k => ev_stop k cX12_holds pc (some .boolean)) (t := [ev_r8_0 E, ev_r8_1 E, ev_r8_2 E, ev_r8_3 E, ev_r8_4 E]) ⟨ev_h8_0 hRf hR1 hRl hRc hRs hE hXs hA S hname, ⟨ev_h8_1 hRf hR1 hRl hRc hRs hE hXs hA S hname, ⟨ev_h8_2 hRf hR1 hRl hRc hRs hE hXs hA S hname, ⟨ev_h8_3 hRf hR1 hRl hRc hRs hE hXs hA S hname, ⟨ev_h8_4 hRf hR1 hRl hRc hRs hE hXs hA S hname, trivial⟩⟩⟩⟩⟩ (pc := pc) (x := x)
  exact ⟨fun pc f hf => K pc _ hf, fun pc k hk => K pc _ hk⟩
theorem ev_t9 {l : Launch} {D : va_G} {A : Nat → Prop} {ex : Nat → Value} : k_TbQ l D ev_cl A ex ev_ty (ev_XT A ex) ev_y ev_b ev_nL ev_ret ev_ws ev_cm ev_sm 0 150 9 ev_m9 := by
  refine Or.inr ⟨by decide +kernel, ⟨ev_W, Or.inl rfl⟩, fun d E hd6 hE p e R s m args below meth c Q ad0 hx hb hml hname hown hts hXs hA hRf0 hR0 hRl hRc hRs => ?_⟩
  have hRf := hRf0.imp_right And.right
  have hR1 : 1 ≤ R.frames := hR0.resolve_left (by decide)
  have S : CallFix p m c cX12_isDigit 1 s args ev_W RX12 := ⟨hx, hb, hml, hown, fun w hw => hts w (List.mem_cons_of_mem _ hw)⟩
  have K := fun (pc : Nat) (x : ev_I ⊕ Nat) => ev_code_at (P := fun pc f => ev_Sim p l e R s m args below meth c Q 1 D ev_cl A s.heap ex ad0 ev_ty pc f) (K := fun pc k => ev_stop k cX12_isDigit pc (some .boolean)) (t := [ev_r9_0 E, ev_r9_1 E]) ⟨ev_h9_0 hRf hR1 hRl hRc hRs hE hXs hA S hname, ⟨ev_h9_1 hRf hR1 hRl hRc hRs hE hXs hA S hname, trivial⟩⟩ (pc := pc) (x := x)
  exact ⟨fun pc f hf => K pc _ hf, fun pc k hk => K pc _ hk⟩
theorem ev_t10 {l : Launch} {D : va_G} {A : Nat → Prop} {ex : Nat → Value} : k_TbQ l D ev_cl A ex ev_ty (ev_XT A ex) ev_y ev_b ev_nL ev_ret ev_ws ev_cm ev_sm 0 150 10 ev_m10 := by
  refine Or.inr ⟨by decide +kernel, ⟨ev_W, Or.inl rfl⟩, fun d E hd6 hE p e R s m args below meth c Q ad0 hx hb hml hname hown hts hXs hA hRf0 hR0 hRl hRc hRs => ?_⟩
  have hRf := hRf0.imp_right And.right
  have hR1 : 1 ≤ R.frames := hR0.resolve_left (by decide)
  have S : CallFix p m c cX12_isTextSign 1 s args ev_W RX12 := ⟨hx, hb, hml, hown, fun w hw => hts w (List.mem_cons_of_mem _ hw)⟩
  have K := fun (pc : Nat) (x : ev_I ⊕ Nat) => ev_code_at (P := fun pc f => ev_Sim p l e R s m args below meth c Q 1 D ev_cl A s.heap ex ad0 ev_ty pc f) (K := fun pc k => ev_stop k cX12_isTextSign pc (some .boolean)) (t := [ev_r10_0 E, ev_r10_1 E]) ⟨ev_h10_0 hRf hR1 hRl hRc hRs hE hXs hA S hname, ⟨ev_h10_1 hRf hR1 hRl hRc hRs hE hXs hA S hname, trivial⟩⟩ (pc := pc) (x := x)
  exact ⟨fun pc f hf => K pc _ hf, fun pc k hk => K pc _ hk⟩
theorem ev_t11 {l : Launch} {D : va_G} {A : Nat → Prop} {ex : Nat → Value} : k_TbQ l D ev_cl A ex ev_ty (ev_XT A ex) ev_y ev_b ev_nL ev_ret ev_ws ev_cm ev_sm 0 150 11 ev_m11 := by
  refine Or.inr ⟨by decide +kernel, ⟨ev_W, Or.inl rfl⟩, fun d E hd6 hE p e R s m args below meth c Q ad0 hx hb hml hname hown hts hXs hA hRf0 hR0 hRl hRc hRs => ?_⟩
  have hRf := hRf0.imp_right And.right
  have hR1 : 1 ≤ R.frames := hR0.resolve_left (by decide)
  have S : CallFix p m c cX12_put 6 s args ev_W RX12 := ⟨hx, hb, hml, hown, fun w hw => hts w (List.mem_cons_of_mem _ hw)⟩
  have K := fun (pc : Nat) (x : ev_I ⊕ Nat) => ev_code_at (P := fun pc f => ev_Sim p l e R s m args below meth c Q 6 D ev_cl A s.heap ex ad0 ev_ty pc f) (K := fun pc k => ev_stop k cX12_put pc (some .boolean)) (t := [ev_r11_0 E, ev_r11_1 E, ev_r11_2 E, ev_r11_3 E, [], [], ev_r11_6 E, ev_r11_7 E]) ⟨ev_h11_0 hRf hR1 hRl hRc hRs hE hXs hA S hname, ⟨ev_h11_1 hRf hR1 hRl hRc hRs hE hXs hA S hname, ⟨ev_h11_2 hRf hR1 hRl hRc hRs hE hXs hA S hname, ⟨ev_h11_3 hRf hR1 hRl hRc hRs hE hXs hA S hname, ⟨ev_pz, ⟨ev_pz, ⟨ev_h11_6 hRf hR1 hRl hRc hRs hE hXs hA S hname, ⟨ev_h11_7 hRf hR1 hRl hRc hRs hE hXs hA S hname, trivial⟩⟩⟩⟩⟩⟩⟩⟩ (pc := pc) (x := x)
  exact ⟨fun pc f hf => K pc _ hf, fun pc k hk => K pc _ hk⟩
theorem ev_t12 {l : Launch} {D : va_G} {A : Nat → Prop} {ex : Nat → Value} : k_TbQ l D ev_cl A ex ev_ty (ev_XT A ex) ev_y ev_b ev_nL ev_ret ev_ws ev_cm ev_sm 0 150 12 ev_m12 := by
  refine Or.inr ⟨by decide +kernel, ⟨ev_W, Or.inl rfl⟩, fun d E hd6 hE p e R s m args below meth c Q ad0 hx hb hml hname hown hts hXs hA hRf0 hR0 hRl hRc hRs => ?_⟩
  have hRf := hRf0.imp_right And.right
  have hR1 : 1 ≤ R.frames := hR0.resolve_left (by decide)
  have S : CallFix p m c cX12_putAlias 3 s args ev_W RX12 := ⟨hx, hb, hml, hown, fun w hw => hts w (List.mem_cons_of_mem _ hw)⟩
  have K := fun (pc : Nat) (x : ev_I ⊕ Nat) => ev_code_at (P := fun pc f => ev_Sim p l e R s m args below meth c Q 3 D ev_cl A s.heap ex ad0 ev_ty pc f) (K := fun pc k => ev_stop k cX12_putAlias pc (some .boolean)) (t := [ev_r12_0 E, ev_r12_1 E]) ⟨ev_h12_0 hRf hR1 hRl hRc hRs hE hXs hA S hname, ⟨ev_h12_1 hRf hR1 hRl hRc hRs hE hXs hA S hname, trivial⟩⟩ (pc := pc) (x := x)
  exact ⟨fun pc f hf => K pc _ hf, fun pc k hk => K pc _ hk⟩
theorem ev_t13 {l : Launch} {D : va_G} {A : Nat → Prop} {ex : Nat → Value} : k_TbQ l D ev_cl A ex ev_ty (ev_XT A ex) ev_y ev_b ev_nL ev_ret ev_ws ev_cm ev_sm 0 150 13 ev_m13 := by
  refine Or.inr ⟨by decide +kernel, ⟨ev_W, Or.inl rfl⟩, fun d E hd6 hE p e R s m args below meth c Q ad0 hx hb hml hname hown hts hXs hA hRf0 hR0 hRl hRc hRs => ?_⟩
  have hRf := hRf0.imp_right And.right
  have hR1 : 1 ≤ R.frames := hR0.resolve_left (by decide)
  have S : CallFix p m c cX12_read 3 s args ev_W RX12 := ⟨hx, hb, hml, hown, fun w hw => hts w (List.mem_cons_of_mem _ hw)⟩
  have K := fun (pc : Nat) (x : ev_I ⊕ Nat) => ev_code_at (P := fun pc f => ev_Sim p l e R s m args below meth c Q 3 D ev_cl A s.heap ex ad0 ev_ty pc f) (K := fun pc k => ev_stop k cX12_read pc (some .int)) (t := [ev_r13_0 E, ev_r13_1 E, ev_r13_2 E, ev_r13_3 E, ev_r13_4 E, ev_r13_5 E, ev_r13_6 E]) ⟨ev_h13_0 hRf hR1 hRl hRc hRs hE hXs hA S hname, ⟨ev_h13_1 hRf hR1 hRl hRc hRs hE hXs hA S hname, ⟨ev_h13_2 hRf hR1 hRl hRc hRs hE hXs hA S hname, ⟨ev_h13_3 hRf hR1 hRl hRc hRs hE hXs hA S hname, ⟨ev_h13_4 hRf hR1 hRl hRc hRs hE hXs hA S hname, ⟨ev_h13_5 hRf hR1 hRl hRc hRs hE hXs hA S hname, ⟨ev_h13_6 hRf hR1 hRl hRc hRs hE hXs hA S hname, trivial⟩⟩⟩⟩⟩⟩⟩ (pc := pc) (x := x)
  exact ⟨fun pc f hf => K pc _ hf, fun pc k hk => K pc _ hk⟩
theorem ev_t14 {l : Launch} {D : va_G} {A : Nat → Prop} {ex : Nat → Value} : k_TbQ l D ev_cl A ex ev_ty (ev_XT A ex) ev_y ev_b ev_nL ev_ret ev_ws ev_cm ev_sm 0 150 14 ev_m14 := by
  refine Or.inr ⟨by decide +kernel, ⟨ev_W, Or.inl rfl⟩, fun d E hd6 hE p e R s m args below meth c Q ad0 hx hb hml hname hown hts hXs hA hRf0 hR0 hRl hRc hRs => ?_⟩
  have hRf := hRf0.imp_right And.right
  have hR1 : 1 ≤ R.frames := hR0.resolve_left (by decide)
  have S : CallFix p m c cX0_init 4 s args ev_W RX0 := ⟨hx, hb, hml, hown, fun w hw => hts w (List.mem_cons_of_mem _ hw)⟩
  have K := fun (pc : Nat) (x : ev_I ⊕ Nat) => ev_code_at (P := fun pc f => ev_Sim p l e R s m args below meth c Q 4 D ev_cl A s.heap ex ad0 ev_ty pc f) (K := fun pc k => ev_stop k cX0_init pc none) (t := [ev_r14_0 E, ev_r14_1 E, ev_r14_2 E, ev_r14_3 E, ev_r14_4 E, ev_r14_5 E, ev_r14_6 E, ev_r14_7 E, ev_r14_8 E]) ⟨ev_h14_0 hRf hR1 hRl hRc hRs hE hXs hA S hname, ⟨ev_h14_1 hRf hR1 hRl hRc hRs hE hXs hA S hname, ⟨ev_h14_2 hRf hR1 hRl hRc hRs hE hXs hA S hname, ⟨ev_h14_3 hRf hR1 hRl hRc hRs hE hXs hA S hname, ⟨ev_h14_4 hRf hR1 hRl hRc hRs hE hXs hA S hname, ⟨ev_h14_5 hRf hR1 hRl hRc hRs hE hXs hA S hname, ⟨ev_h14_6 hRf hR1 hRl hRc hRs hE hXs hA S hname, ⟨ev_h14_7 hRf hR1 hRl hRc hRs hE hXs hA S hname, ⟨ev_h14_8 hRf hR1 hRl hRc hRs hE hXs hA S hname, trivial⟩⟩⟩⟩⟩⟩⟩⟩⟩ (pc := pc) (x := x)
  exact ⟨fun pc f hf => K pc _ hf, fun pc k hk => K pc _ hk⟩
theorem ev_t15 {l : Launch} {D : va_G} {A : Nat → Prop} {ex : Nat → Value} : k_TbQ l D ev_cl A ex ev_ty (ev_XT A ex) ev_y ev_b ev_nL ev_ret ev_ws ev_cm ev_sm 0 150 15 ev_m15 := by
  refine Or.inr ⟨by decide +kernel, ⟨ev_W, Or.inl rfl⟩, fun d E hd6 hE p e R s m args below meth c Q ad0 hx hb hml hname hown hts hXs hA hRf0 hR0 hRl hRc hRs => ?_⟩
  have hRf := hRf0.imp_right And.right
  have hR1 : 1 ≤ R.frames := hR0.resolve_left (by decide)
  have S : CallFix p m c cX1_init 1 s args ev_W RX1 := ⟨hx, hb, hml, hown, fun w hw => hts w (List.mem_cons_of_mem _ hw)⟩
  have K := fun (pc : Nat) (x : ev_I ⊕ Nat) => ev_code_at (P := fun pc f => ev_Sim p l e R s m args below meth c Q 1 D ev_cl A s.heap ex ad0 ev_ty pc f) (K := fun pc k => ev_stop k cX1_init pc none) (t := [ev_r15_0 E]) ⟨ev_h15_0 hRf hR1 hRl hRc hRs hE hXs hA S hname, trivial⟩ (pc := pc) (x := x)
  exact ⟨fun pc f hf => K pc _ hf, fun pc k hk => K pc _ hk⟩
theorem ev_t16 {l : Launch} {D : va_G} {A : Nat → Prop} {ex : Nat → Value} : k_TbQ l D ev_cl A ex ev_ty (ev_XT A ex) ev_y ev_b ev_nL ev_ret ev_ws ev_cm ev_sm 0 150 16 ev_m16 := by
  refine Or.inr ⟨by decide +kernel, ⟨ev_W, Or.inl rfl⟩, fun d E hd6 hE p e R s m args below meth c Q ad0 hx hb hml hname hown hts hXs hA hRf0 hR0 hRl hRc hRs => ?_⟩
  have hRf := hRf0.imp_right And.right
  have hR1 : 1 ≤ R.frames := hR0.resolve_left (by decide)
  have S : CallFix p m c cX1_has 2 s args ev_W RX1 := ⟨hx, hb, hml, hown, fun w hw => hts w (List.mem_cons_of_mem _ hw)⟩
  have K := fun (pc : Nat) (x : ev_I ⊕ Nat) => ev_code_at (P := fun pc f => ev_Sim p l e R s m args below meth c Q 2 D ev_cl A s.heap ex ad0 ev_ty pc f) (K := fun pc k => ev_stop k cX1_has pc (some .boolean)) (t := [ev_r16_0 E]) ⟨ev_h16_0 hRf hR1 hRl hRc hRs hE hXs hA S hname, trivial⟩ (pc := pc) (x := x)
  exact ⟨fun pc f hf => K pc _ hf, fun pc k hk => K pc _ hk⟩
theorem ev_t17 {l : Launch} {D : va_G} {A : Nat → Prop} {ex : Nat → Value} : k_TbQ l D ev_cl A ex ev_ty (ev_XT A ex) ev_y ev_b ev_nL ev_ret ev_ws ev_cm ev_sm 0 150 17 ev_m17 := by
  refine Or.inr ⟨by decide +kernel, ⟨ev_W, Or.inl rfl⟩, fun d E hd6 hE p e R s m args below meth c Q ad0 hx hb hml hname hown hts hXs hA hRf0 hR0 hRl hRc hRs => ?_⟩
  have hRf := hRf0.imp_right And.right
  have hR1 : 1 ≤ R.frames := hR0.resolve_left (by decide)
  have S : CallFix p m c cX1_set 4 s args ev_W RX1 := ⟨hx, hb, hml, hown, fun w hw => hts w (List.mem_cons_of_mem _ hw)⟩
  have K := fun (pc : Nat) (x : ev_I ⊕ Nat) => ev_code_at (P := fun pc f => ev_Sim p l e R s m args below meth c Q 4 D ev_cl A s.heap ex ad0 ev_ty pc f) (K := fun pc k => ev_stop k cX1_set pc none) (t := [ev_r17_0 E, ev_r17_1 E, ev_r17_2 E, ev_r17_3 E, ev_r17_4 E, ev_r17_5 E]) ⟨ev_h17_0 hRf hR1 hRl hRc hRs hE hXs hA S hname, ⟨ev_h17_1 hRf hR1 hRl hRc hRs hE hXs hA S hname, ⟨ev_h17_2 hRf hR1 hRl hRc hRs hE hXs hA S hname, ⟨ev_h17_3 hRf hR1 hRl hRc hRs hE hXs hA S hname, ⟨ev_h17_4 hRf hR1 hRl hRc hRs hE hXs hA S hname, ⟨ev_h17_5 hRf hR1 hRl hRc hRs hE hXs hA S hname, trivial⟩⟩⟩⟩⟩⟩ (pc := pc) (x := x)
  exact ⟨fun pc f hf => K pc _ hf, fun pc k hk => K pc _ hk⟩
theorem ev_t18 {l : Launch} {D : va_G} {A : Nat → Prop} {ex : Nat → Value} : k_TbQ l D ev_cl A ex ev_ty (ev_XT A ex) ev_y ev_b ev_nL ev_ret ev_ws ev_cm ev_sm 0 150 18 ev_m18 := by
  refine Or.inr ⟨by decide +kernel, ⟨ev_W, Or.inl rfl⟩, fun d E hd6 hE p e R s m args below meth c Q ad0 hx hb hml hname hown hts hXs hA hRf0 hR0 hRl hRc hRs => ?_⟩
  have hRf := hRf0.imp_right And.right
  have hR1 : 1 ≤ R.frames := hR0.resolve_left (by decide)
  have S : CallFix p m c cX2_init 1 s args ev_W RX2 := ⟨hx, hb, hml, hown, fun w hw => hts w (List.mem_cons_of_mem _ hw)⟩
  have K := fun (pc : Nat) (x : ev_I ⊕ Nat) => ev_code_at (P := fun pc f => ev_Sim p l e R s m args below meth c Q 1 D ev_cl A s.heap ex ad0 ev_ty pc f) (K := fun pc k => ev_stop k cX2_init pc none) (t := [ev_r18_0 E, ev_r18_1 E, ev_r18_2 E, ev_r18_3 E, ev_r18_4 E, ev_r18_5 E, ev_r18_6 E, ev_r18_7 E, ev_r18_8 E]) ⟨ev_h18_0 hRf hR1 hRl hRc hRs hE hXs hA S hname, ⟨ev_h18_1 hRf hR1 hRl hRc hRs hE hXs hA S hname, ⟨ev_h18_2 hRf hR1 hRl hRc hRs hE hXs hA S hname, ⟨ev_h18_3 hRf hR1 hRl hRc hRs hE hXs hA S hname, ⟨ev_h18_4 hRf hR1 hRl hRc hRs hE hXs hA S hname, ⟨ev_h18_5 hRf hR1 hRl hRc hRs hE hXs hA S hname, ⟨ev_h18_6 hRf hR1 hRl hRc hRs hE hXs hA S hname, ⟨ev_h18_7 hRf hR1 hRl hRc hRs hE hXs hA S hname, ⟨ev_h18_8 hRf hR1 hRl hRc hRs hE hXs hA S hname, trivial⟩⟩⟩⟩⟩⟩⟩⟩⟩ (pc := pc) (x := x)
  exact ⟨fun pc f hf => K pc _ hf, fun pc k hk => K pc _ hk⟩
theorem ev_t19 {l : Launch} {D : va_G} {A : Nat → Prop} {ex : Nat → Value} : k_TbQ l D ev_cl A ex ev_ty (ev_XT A ex) ev_y ev_b ev_nL ev_ret ev_ws ev_cm ev_sm 0 150 19 ev_m19 := by
  refine Or.inr ⟨by decide +kernel, ⟨ev_W, Or.inl rfl⟩, fun d E hd6 hE p e R s m args below meth c Q ad0 hx hb hml hname hown hts hXs hA hRf0 hR0 hRl hRc hRs => ?_⟩
  have hRf := hRf0.imp_right And.right
  have hR1 : 1 ≤ R.frames := hR0.resolve_left (by decide)
  have S : CallFix p m c cX2_command 3 s args ev_W RX2 := ⟨hx, hb, hml, hown, fun w hw => hts w (List.mem_cons_of_mem _ hw)⟩
  have K := fun (pc : Nat) (x : ev_I ⊕ Nat) => ev_code_at (P := fun pc f => ev_Sim p l e R s m args below meth c Q 3 D ev_cl A s.heap ex ad0 ev_ty pc f) (K := fun pc k => ev_stop k cX2_command pc none) (t := [ev_r19_0 E]) ⟨ev_h19_0 hRf hR1 hRl hRc hRs hE hXs hA S hname, trivial⟩ (pc := pc) (x := x)
  exact ⟨fun pc f hf => K pc _ hf, fun pc k hk => K pc _ hk⟩
theorem ev_t20 {l : Launch} {D : va_G} {A : Nat → Prop} {ex : Nat → Value} : k_TbQ l D ev_cl A ex ev_ty (ev_XT A ex) ev_y ev_b ev_nL ev_ret ev_ws ev_cm ev_sm 0 150 20 ev_m20 := by
  refine Or.inr ⟨by decide +kernel, ⟨ev_W, Or.inl rfl⟩, fun d E hd6 hE p e R s m args below meth c Q ad0 hx hb hml hname hown hts hXs hA hRf0 hR0 hRl hRc hRs => ?_⟩
  have hRf := hRf0.imp_right And.right
  have hR1 : 1 ≤ R.frames := hR0.resolve_left (by decide)
  have S : CallFix p m c cX2_find 4 s args ev_W RX2 := ⟨hx, hb, hml, hown, fun w hw => hts w (List.mem_cons_of_mem _ hw)⟩
  have K := fun (pc : Nat) (x : ev_I ⊕ Nat) => ev_code_at (P := fun pc f => ev_Sim p l e R s m args below meth c Q 4 D ev_cl A s.heap ex ad0 ev_ty pc f) (K := fun pc k => ev_stop k cX2_find pc (some (.object "TextShell$Name"))) (t := [ev_r20_0 E, ev_r20_1 E, ev_r20_2 E, ev_r20_3 E, ev_r20_4 E, ev_r20_5 E]) ⟨ev_h20_0 hRf hR1 hRl hRc hRs hE hXs hA S hname, ⟨ev_h20_1 hRf hR1 hRl hRc hRs hE hXs hA S hname, ⟨ev_h20_2 hRf hR1 hRl hRc hRs hE hXs hA S hname, ⟨ev_h20_3 hRf hR1 hRl hRc hRs hE hXs hA S hname, ⟨ev_h20_4 hRf hR1 hRl hRc hRs hE hXs hA S hname, ⟨ev_h20_5 hRf hR1 hRl hRc hRs hE hXs hA S hname, trivial⟩⟩⟩⟩⟩⟩ (pc := pc) (x := x)
  exact ⟨fun pc f hf => K pc _ hf, fun pc k hk => K pc _ hk⟩
theorem ev_t21 {l : Launch} {D : va_G} {A : Nat → Prop} {ex : Nat → Value} : k_TbQ l D ev_cl A ex ev_ty (ev_XT A ex) ev_y ev_b ev_nL ev_ret ev_ws ev_cm ev_sm 0 150 21 ev_m21 := by
  refine Or.inr ⟨by decide +kernel, ⟨ev_W, Or.inl rfl⟩, fun d E hd6 hE p e R s m args below meth c Q ad0 hx hb hml hname hown hts hXs hA hRf0 hR0 hRl hRc hRs => ?_⟩
  have hRf := hRf0.imp_right And.right
  have hR1 : 1 ≤ R.frames := hR0.resolve_left (by decide)
  have S : CallFix p m c cX2_name 5 s args ev_W RX2 := ⟨hx, hb, hml, hown, fun w hw => hts w (List.mem_cons_of_mem _ hw)⟩
  have K := fun (pc : Nat) (x : ev_I ⊕ Nat) => ev_code_at (P := fun pc f => ev_Sim p l e R s m args below meth c Q 5 D ev_cl A s.heap ex ad0 ev_ty pc f) (K := fun pc k => ev_stop k cX2_name pc (some (.object "TextShell$Name"))) (t := [ev_r21_0 E, ev_r21_1 E, [], [], ev_r21_4 E, ev_r21_5 E, ev_r21_6 E, ev_r21_7 E, ev_r21_8 E]) ⟨ev_h21_0 hRf hR1 hRl hRc hRs hE hXs hA S hname, ⟨ev_h21_1 hRf hR1 hRl hRc hRs hE hXs hA S hname, ⟨ev_pz, ⟨ev_pz, ⟨ev_h21_4 hRf hR1 hRl hRc hRs hE hXs hA S hname, ⟨ev_h21_5 hRf hR1 hRl hRc hRs hE hXs hA S hname, ⟨ev_h21_6 hRf hR1 hRl hRc hRs hE hXs hA S hname, ⟨ev_h21_7 hRf hR1 hRl hRc hRs hE hXs hA S hname, ⟨ev_h21_8 hRf hR1 hRl hRc hRs hE hXs hA S hname, trivial⟩⟩⟩⟩⟩⟩⟩⟩⟩ (pc := pc) (x := x)
  exact ⟨fun pc f hf => K pc _ hf, fun pc k hk => K pc _ hk⟩
theorem ev_t22 {l : Launch} {D : va_G} {A : Nat → Prop} {ex : Nat → Value} : k_TbQ l D ev_cl A ex ev_ty (ev_XT A ex) ev_y ev_b ev_nL ev_ret ev_ws ev_cm ev_sm 0 150 22 ev_m22 := by
  refine Or.inr ⟨by decide +kernel, ⟨ev_W, Or.inl rfl⟩, fun d E hd6 hE p e R s m args below meth c Q ad0 hx hb hml hname hown hts hXs hA hRf0 hR0 hRl hRc hRs => ?_⟩
  have hRf := hRf0.imp_right And.right
  have hR1 : 1 ≤ R.frames := hR0.resolve_left (by decide)
  have S : CallFix p m c cX2_reserve 3 s args ev_W RX2 := ⟨hx, hb, hml, hown, fun w hw => hts w (List.mem_cons_of_mem _ hw)⟩
  have K := fun (pc : Nat) (x : ev_I ⊕ Nat) => ev_code_at (P := fun pc f => ev_Sim p l e R s m args below meth c Q 3 D ev_cl A s.heap ex ad0 ev_ty pc f) (K := fun pc k => ev_stop k cX2_reserve pc none) (t := [ev_r22_0 E]) ⟨ev_h22_0 hRf hR1 hRl hRc hRs hE hXs hA S hname, trivial⟩ (pc := pc) (x := x)
  exact ⟨fun pc f hf => K pc _ hf, fun pc k hk => K pc _ hk⟩
theorem ev_t23 {l : Launch} {D : va_G} {A : Nat → Prop} {ex : Nat → Value} : k_TbQ l D ev_cl A ex ev_ty (ev_XT A ex) ev_y ev_b ev_nL ev_ret ev_ws ev_cm ev_sm 0 150 23 ev_m23 := by
  refine Or.inr ⟨by decide +kernel, ⟨ev_W, Or.inl rfl⟩, fun d E hd6 hE p e R s m args below meth c Q ad0 hx hb hml hname hown hts hXs hA hRf0 hR0 hRl hRc hRs => ?_⟩
  have hRf := hRf0.imp_right And.right
  have hR1 : 1 ≤ R.frames := hR0.resolve_left (by decide)
  have S : CallFix p m c cX2_row 2 s args ev_W RX2 := ⟨hx, hb, hml, hown, fun w hw => hts w (List.mem_cons_of_mem _ hw)⟩
  have K := fun (pc : Nat) (x : ev_I ⊕ Nat) => ev_code_at (P := fun pc f => ev_Sim p l e R s m args below meth c Q 2 D ev_cl A s.heap ex ad0 ev_ty pc f) (K := fun pc k => ev_stop k cX2_row pc (some (.object "TextShell$Row"))) (t := [ev_r23_0 E, ev_r23_1 E]) ⟨ev_h23_0 hRf hR1 hRl hRc hRs hE hXs hA S hname, ⟨ev_h23_1 hRf hR1 hRl hRc hRs hE hXs hA S hname, trivial⟩⟩ (pc := pc) (x := x)
  exact ⟨fun pc f hf => K pc _ hf, fun pc k hk => K pc _ hk⟩
theorem ev_t24 {l : Launch} {D : va_G} {A : Nat → Prop} {ex : Nat → Value} : k_TbQ l D ev_cl A ex ev_ty (ev_XT A ex) ev_y ev_b ev_nL ev_ret ev_ws ev_cm ev_sm 0 150 24 ev_m24 := by
  refine Or.inr ⟨by decide +kernel, ⟨ev_W, Or.inl rfl⟩, fun d E hd6 hE p e R s m args below meth c Q ad0 hx hb hml hname hown hts hXs hA hRf0 hR0 hRl hRc hRs => ?_⟩
  have hRf := hRf0.imp_right And.right
  have hR1 : 1 ≤ R.frames := hR0.resolve_left (by decide)
  have S : CallFix p m c cX2_tellCommands 1 s args ev_W RX2 := ⟨hx, hb, hml, hown, fun w hw => hts w (List.mem_cons_of_mem _ hw)⟩
  have K := fun (pc : Nat) (x : ev_I ⊕ Nat) => ev_code_at (P := fun pc f => ev_Sim p l e R s m args below meth c Q 1 D ev_cl A s.heap ex ad0 ev_ty pc f) (K := fun pc k => ev_stop k cX2_tellCommands pc none) (t := [ev_r24_0 E, ev_r24_1 E, ev_r24_2 E, ev_r24_3 E, ev_r24_4 E, ev_r24_5 E, ev_r24_6 E, ev_r24_7 E, ev_r24_8 E, ev_r24_9 E, ev_r24_10 E, ev_r24_11 E, ev_r24_12 E, ev_r24_13 E, ev_r24_14 E, ev_r24_15 E, ev_r24_16 E, ev_r24_17 E, ev_r24_18 E, ev_r24_19 E]) ⟨ev_h24_0 hRf hR1 hRl hRc hRs hE hXs hA S hname, ⟨ev_h24_1 hRf hR1 hRl hRc hRs hE hXs hA S hname, ⟨ev_h24_2 hRf hR1 hRl hRc hRs hE hXs hA S hname, ⟨ev_h24_3 hRf hR1 hRl hRc hRs hE hXs hA S hname, ⟨ev_h24_4 hRf hR1 hRl hRc hRs hE hXs hA S hname, ⟨ev_h24_5 hRf hR1 hRl hRc hRs hE hXs hA S hname, ⟨ev_h24_6 hRf hR1 hRl hRc hRs hE hXs hA S hname, ⟨ev_h24_7 hRf hR1 hRl hRc hRs hE hXs hA S hname, ⟨ev_h24_8 hRf hR1 hRl hRc hRs hE hXs hA S hname, ⟨ev_h24_9 hRf hR1 hRl hRc hRs hE hXs hA S hname, ⟨ev_h24_10 hRf hR1 hRl hRc hRs hE hXs hA S hname, ⟨ev_h24_11 hRf hR1 hRl hRc hRs hE hXs hA S hname, ⟨ev_h24_12 hRf hR1 hRl hRc hRs hE hXs hA S hname, ⟨ev_h24_13 hRf hR1 hRl hRc hRs hE hXs hA S hname, ⟨ev_h24_14 hRf hR1 hRl hRc hRs hE hXs hA S hname, ⟨ev_h24_15 hRf hR1 hRl hRc hRs hE hXs hA S hname, ⟨ev_h24_16 hRf hR1 hRl hRc hRs hE hXs hA S hname, ⟨ev_h24_17 hRf hR1 hRl hRc hRs hE hXs hA S hname, ⟨ev_h24_18 hRf hR1 hRl hRc hRs hE hXs hA S hname, ⟨ev_h24_19 hRf hR1 hRl hRc hRs hE hXs hA S hname, trivial⟩⟩⟩⟩⟩⟩⟩⟩⟩⟩⟩⟩⟩⟩⟩⟩⟩⟩⟩⟩ (pc := pc) (x := x)
  exact ⟨fun pc f hf => K pc _ hf, fun pc k hk => K pc _ hk⟩
theorem ev_t25 {l : Launch} {D : va_G} {A : Nat → Prop} {ex : Nat → Value} : k_TbQ l D ev_cl A ex ev_ty (ev_XT A ex) ev_y ev_b ev_nL ev_ret ev_ws ev_cm ev_sm 0 150 25 ev_m25 := by
  refine Or.inr ⟨by decide +kernel, ⟨ev_W, Or.inl rfl⟩, fun d E hd6 hE p e R s m args below meth c Q ad0 hx hb hml hname hown hts hXs hA hRf0 hR0 hRl hRc hRs => ?_⟩
  have hRf := hRf0.imp_right And.right
  have hR1 : 1 ≤ R.frames := hR0.resolve_left (by decide)
  have S : CallFix p m c cX2_tellReserved 1 s args ev_W RX2 := ⟨hx, hb, hml, hown, fun w hw => hts w (List.mem_cons_of_mem _ hw)⟩
  have K := fun (pc : Nat) (x : ev_I ⊕ Nat) => ev_code_at (P := fun pc f => ev_Sim p l e R s m args below meth c Q 1 D ev_cl A s.heap ex ad0 ev_ty pc f) (K := fun pc k => ev_stop k cX2_tellReserved pc none) (t := [ev_r25_0 E, ev_r25_1 E, ev_r25_2 E, ev_r25_3 E, ev_r25_4 E, ev_r25_5 E, ev_r25_6 E, ev_r25_7 E]) ⟨ev_h25_0 hRf hR1 hRl hRc hRs hE hXs hA S hname, ⟨ev_h25_1 hRf hR1 hRl hRc hRs hE hXs hA S hname, ⟨ev_h25_2 hRf hR1 hRl hRc hRs hE hXs hA S hname, ⟨ev_h25_3 hRf hR1 hRl hRc hRs hE hXs hA S hname, ⟨ev_h25_4 hRf hR1 hRl hRc hRs hE hXs hA S hname, ⟨ev_h25_5 hRf hR1 hRl hRc hRs hE hXs hA S hname, ⟨ev_h25_6 hRf hR1 hRl hRc hRs hE hXs hA S hname, ⟨ev_h25_7 hRf hR1 hRl hRc hRs hE hXs hA S hname, trivial⟩⟩⟩⟩⟩⟩⟩⟩ (pc := pc) (x := x)
  exact ⟨fun pc f hf => K pc _ hf, fun pc k hk => K pc _ hk⟩
theorem ev_t26 {l : Launch} {D : va_G} {A : Nat → Prop} {ex : Nat → Value} : k_TbQ l D ev_cl A ex ev_ty (ev_XT A ex) ev_y ev_b ev_nL ev_ret ev_ws ev_cm ev_sm 0 150 26 ev_m26 := by
  refine Or.inr ⟨by decide +kernel, ⟨ev_W, Or.inl rfl⟩, fun d E hd6 hE p e R s m args below meth c Q ad0 hx hb hml hname hown hts hXs hA hRf0 hR0 hRl hRc hRs => ?_⟩
  have hRf := hRf0.imp_right And.right
  have hR1 : 1 ≤ R.frames := hR0.resolve_left (by decide)
  have S : CallFix p m c cX3_init 3 s args ev_W RX3 := ⟨hx, hb, hml, hown, fun w hw => hts w (List.mem_cons_of_mem _ hw)⟩
  have K := fun (pc : Nat) (x : ev_I ⊕ Nat) => ev_code_at (P := fun pc f => ev_Sim p l e R s m args below meth c Q 3 D ev_cl A s.heap ex ad0 ev_ty pc f) (K := fun pc k => ev_stop k cX3_init pc none) (t := [ev_r26_0 E]) ⟨ev_h26_0 hRf hR1 hRl hRc hRs hE hXs hA S hname, trivial⟩ (pc := pc) (x := x)
  exact ⟨fun pc f hf => K pc _ hf, fun pc k hk => K pc _ hk⟩
theorem ev_t27 {l : Launch} {D : va_G} {A : Nat → Prop} {ex : Nat → Value} : k_TbQ l D ev_cl A ex ev_ty (ev_XT A ex) ev_y ev_b ev_nL ev_ret ev_ws ev_cm ev_sm 0 150 27 ev_m27 := by
  refine Or.inr ⟨by decide +kernel, ⟨ev_W, Or.inl rfl⟩, fun d E hd6 hE p e R s m args below meth c Q ad0 hx hb hml hname hown hts hXs hA hRf0 hR0 hRl hRc hRs => ?_⟩
  have hRf := hRf0.imp_right And.right
  have hR1 : 1 ≤ R.frames := hR0.resolve_left (by decide)
  have S : CallFix p m c cX4_init 4 s args ev_W RX4 := ⟨hx, hb, hml, hown, fun w hw => hts w (List.mem_cons_of_mem _ hw)⟩
  have K := fun (pc : Nat) (x : ev_I ⊕ Nat) => ev_code_at (P := fun pc f => ev_Sim p l e R s m args below meth c Q 4 D ev_cl A s.heap ex ad0 ev_ty pc f) (K := fun pc k => ev_stop k cX4_init pc none) (t := [ev_r27_0 E, ev_r27_1 E, ev_r27_2 E, ev_r27_3 E]) ⟨ev_h27_0 hRf hR1 hRl hRc hRs hE hXs hA S hname, ⟨ev_h27_1 hRf hR1 hRl hRc hRs hE hXs hA S hname, ⟨ev_h27_2 hRf hR1 hRl hRc hRs hE hXs hA S hname, ⟨ev_h27_3 hRf hR1 hRl hRc hRs hE hXs hA S hname, trivial⟩⟩⟩⟩ (pc := pc) (x := x)
  exact ⟨fun pc f hf => K pc _ hf, fun pc k hk => K pc _ hk⟩
theorem ev_t28 {l : Launch} {D : va_G} {A : Nat → Prop} {ex : Nat → Value} : k_TbQ l D ev_cl A ex ev_ty (ev_XT A ex) ev_y ev_b ev_nL ev_ret ev_ws ev_cm ev_sm 0 150 28 ev_m28 := by
  refine Or.inr ⟨by decide +kernel, ⟨ev_W, Or.inl rfl⟩, fun d E hd6 hE p e R s m args below meth c Q ad0 hx hb hml hname hown hts hXs hA hRf0 hR0 hRl hRc hRs => ?_⟩
  have hRf := hRf0.imp_right And.right
  have hR1 : 1 ≤ R.frames := hR0.resolve_left (by decide)
  have S : CallFix p m c cX5_init 2 s args ev_W RX5 := ⟨hx, hb, hml, hown, fun w hw => hts w (List.mem_cons_of_mem _ hw)⟩
  have K := fun (pc : Nat) (x : ev_I ⊕ Nat) => ev_code_at (P := fun pc f => ev_Sim p l e R s m args below meth c Q 2 D ev_cl A s.heap ex ad0 ev_ty pc f) (K := fun pc k => ev_stop k cX5_init pc none) (t := [ev_r28_0 E, ev_r28_1 E, ev_r28_2 E, ev_r28_3 E]) ⟨ev_h28_0 hRf hR1 hRl hRc hRs hE hXs hA S hname, ⟨ev_h28_1 hRf hR1 hRl hRc hRs hE hXs hA S hname, ⟨ev_h28_2 hRf hR1 hRl hRc hRs hE hXs hA S hname, ⟨ev_h28_3 hRf hR1 hRl hRc hRs hE hXs hA S hname, trivial⟩⟩⟩⟩ (pc := pc) (x := x)
  exact ⟨fun pc f hf => K pc _ hf, fun pc k hk => K pc _ hk⟩
theorem ev_t29 {l : Launch} {D : va_G} {A : Nat → Prop} {ex : Nat → Value} : k_TbQ l D ev_cl A ex ev_ty (ev_XT A ex) ev_y ev_b ev_nL ev_ret ev_ws ev_cm ev_sm 0 150 29 ev_m29 := by
  refine Or.inr ⟨by decide +kernel, ⟨ev_W, Or.inl rfl⟩, fun d E hd6 hE p e R s m args below meth c Q ad0 hx hb hml hname hown hts hXs hA hRf0 hR0 hRl hRc hRs => ?_⟩
  have hRf := hRf0.imp_right And.right
  have hR1 : 1 ≤ R.frames := hR0.resolve_left (by decide)
  have S : CallFix p m c cX5_accept 2 s args ev_W RX5 := ⟨hx, hb, hml, hown, fun w hw => hts w (List.mem_cons_of_mem _ hw)⟩
  have K := fun (pc : Nat) (x : ev_I ⊕ Nat) => ev_code_at (P := fun pc f => ev_Sim p l e R s m args below meth c Q 2 D ev_cl A s.heap ex ad0 ev_ty pc f) (K := fun pc k => ev_stop k cX5_accept pc none) (t := [ev_r29_0 E, [], [], ev_r29_3 E, ev_r29_4 E, [], [], [], ev_r29_8 E]) ⟨ev_h29_0 hRf hR1 hRl hRc hRs hE hXs hA S hname, ⟨ev_pz, ⟨ev_pz, ⟨ev_h29_3 hRf hR1 hRl hRc hRs hE hXs hA S hname, ⟨ev_h29_4 hRf hR1 hRl hRc hRs hE hXs hA S hname, ⟨ev_pz, ⟨ev_pz, ⟨ev_pz, ⟨ev_h29_8 hRf hR1 hRl hRc hRs hE hXs hA S hname, trivial⟩⟩⟩⟩⟩⟩⟩⟩⟩ (pc := pc) (x := x)
  exact ⟨fun pc f hf => K pc _ hf, fun pc k hk => K pc _ hk⟩
theorem ev_t30 {l : Launch} {D : va_G} {A : Nat → Prop} {ex : Nat → Value} : k_TbQ l D ev_cl A ex ev_ty (ev_XT A ex) ev_y ev_b ev_nL ev_ret ev_ws ev_cm ev_sm 0 150 30 ev_m30 := by
  refine Or.inr ⟨by decide +kernel, ⟨ev_W, Or.inl rfl⟩, fun d E hd6 hE p e R s m args below meth c Q ad0 hx hb hml hname hown hts hXs hA hRf0 hR0 hRl hRc hRs => ?_⟩
  have hRf := hRf0.imp_right And.right
  have hR1 : 1 ≤ R.frames := hR0.resolve_left (by decide)
  have S : CallFix p m c cX5_atBegin 2 s args ev_W RX5 := ⟨hx, hb, hml, hown, fun w hw => hts w (List.mem_cons_of_mem _ hw)⟩
  have K := fun (pc : Nat) (x : ev_I ⊕ Nat) => ev_code_at (P := fun pc f => ev_Sim p l e R s m args below meth c Q 2 D ev_cl A s.heap ex ad0 ev_ty pc f) (K := fun pc k => ev_stop k cX5_atBegin pc none) (t := [ev_r30_0 E, ev_r30_1 E, [], ev_r30_3 E, [], ev_r30_5 E, ev_r30_6 E, ev_r30_7 E, ev_r30_8 E, ev_r30_9 E, ev_r30_10 E]) ⟨ev_h30_0 hRf hR1 hRl hRc hRs hE hXs hA S hname, ⟨ev_h30_1 hRf hR1 hRl hRc hRs hE hXs hA S hname, ⟨ev_pz, ⟨ev_h30_3 hRf hR1 hRl hRc hRs hE hXs hA S hname, ⟨ev_pz, ⟨ev_h30_5 hRf hR1 hRl hRc hRs hE hXs hA S hname, ⟨ev_h30_6 hRf hR1 hRl hRc hRs hE hXs hA S hname, ⟨ev_h30_7 hRf hR1 hRl hRc hRs hE hXs hA S hname, ⟨ev_h30_8 hRf hR1 hRl hRc hRs hE hXs hA S hname, ⟨ev_h30_9 hRf hR1 hRl hRc hRs hE hXs hA S hname, ⟨ev_h30_10 hRf hR1 hRl hRc hRs hE hXs hA S hname, trivial⟩⟩⟩⟩⟩⟩⟩⟩⟩⟩⟩ (pc := pc) (x := x)
  exact ⟨fun pc f hf => K pc _ hf, fun pc k hk => K pc _ hk⟩
theorem ev_t31 {l : Launch} {D : va_G} {A : Nat → Prop} {ex : Nat → Value} : k_TbQ l D ev_cl A ex ev_ty (ev_XT A ex) ev_y ev_b ev_nL ev_ret ev_ws ev_cm ev_sm 0 150 31 ev_m31 := by
  refine Or.inr ⟨by decide +kernel, ⟨ev_W, Or.inl rfl⟩, fun d E hd6 hE p e R s m args below meth c Q ad0 hx hb hml hname hown hts hXs hA hRf0 hR0 hRl hRc hRs => ?_⟩
  have hRf := hRf0.imp_right And.right
  have hR1 : 1 ≤ R.frames := hR0.resolve_left (by decide)
  have S : CallFix p m c cX5_bareSign 3 s args ev_W RX5 := ⟨hx, hb, hml, hown, fun w hw => hts w (List.mem_cons_of_mem _ hw)⟩
  have K := fun (pc : Nat) (x : ev_I ⊕ Nat) => ev_code_at (P := fun pc f => ev_Sim p l e R s m args below meth c Q 3 D ev_cl A s.heap ex ad0 ev_ty pc f) (K := fun pc k => ev_stop k cX5_bareSign pc none) (t := [ev_r31_0 E, ev_r31_1 E, ev_r31_2 E, [], [], [], [], [], [], [], ev_r31_10 E, ev_r31_11 E, ev_r31_12 E]) ⟨ev_h31_0 hRf hR1 hRl hRc hRs hE hXs hA S hname, ⟨ev_h31_1 hRf hR1 hRl hRc hRs hE hXs hA S hname, ⟨ev_h31_2 hRf hR1 hRl hRc hRs hE hXs hA S hname, ⟨ev_pz, ⟨ev_pz, ⟨ev_pz, ⟨ev_pz, ⟨ev_pz, ⟨ev_pz, ⟨ev_pz, ⟨ev_h31_10 hRf hR1 hRl hRc hRs hE hXs hA S hname, ⟨ev_h31_11 hRf hR1 hRl hRc hRs hE hXs hA S hname, ⟨ev_h31_12 hRf hR1 hRl hRc hRs hE hXs hA S hname, trivial⟩⟩⟩⟩⟩⟩⟩⟩⟩⟩⟩⟩⟩ (pc := pc) (x := x)
  exact ⟨fun pc f hf => K pc _ hf, fun pc k hk => K pc _ hk⟩
theorem ev_t32 {l : Launch} {D : va_G} {A : Nat → Prop} {ex : Nat → Value} : k_TbQ l D ev_cl A ex ev_ty (ev_XT A ex) ev_y ev_b ev_nL ev_ret ev_ws ev_cm ev_sm 0 150 32 ev_m32 := by
  refine Or.inr ⟨by decide +kernel, ⟨ev_W, Or.inl rfl⟩, fun d E hd6 hE p e R s m args below meth c Q ad0 hx hb hml hname hown hts hXs hA hRf0 hR0 hRl hRc hRs => ?_⟩
  have hRf := hRf0.imp_right And.right
  have hR1 : 1 ≤ R.frames := hR0.resolve_left (by decide)
  have S : CallFix p m c cX5_begins 2 s args ev_W RX5 := ⟨hx, hb, hml, hown, fun w hw => hts w (List.mem_cons_of_mem _ hw)⟩
  have K := fun (pc : Nat) (x : ev_I ⊕ Nat) => ev_code_at (P := fun pc f => ev_Sim p l e R s m args below meth c Q 2 D ev_cl A s.heap ex ad0 ev_ty pc f) (K := fun pc k => ev_stop k cX5_begins pc (some .boolean)) (t := [ev_r32_0 E, ev_r32_1 E, ev_r32_2 E]) ⟨ev_h32_0 hRf hR1 hRl hRc hRs hE hXs hA S hname, ⟨ev_h32_1 hRf hR1 hRl hRc hRs hE hXs hA S hname, ⟨ev_h32_2 hRf hR1 hRl hRc hRs hE hXs hA S hname, trivial⟩⟩⟩ (pc := pc) (x := x)
  exact ⟨fun pc f hf => K pc _ hf, fun pc k hk => K pc _ hk⟩
theorem ev_t33 {l : Launch} {D : va_G} {A : Nat → Prop} {ex : Nat → Value} : k_TbQ l D ev_cl A ex ev_ty (ev_XT A ex) ev_y ev_b ev_nL ev_ret ev_ws ev_cm ev_sm 0 150 33 ev_m33 := by
  refine Or.inr ⟨by decide +kernel, ⟨ev_W, Or.inl rfl⟩, fun d E hd6 hE p e R s m args below meth c Q ad0 hx hb hml hname hown hts hXs hA hRf0 hR0 hRl hRc hRs => ?_⟩
  have hRf := hRf0.imp_right And.right
  have hR1 : 1 ≤ R.frames := hR0.resolve_left (by decide)
  have S : CallFix p m c cX5_closeByToken 3 s args ev_W RX5 := ⟨hx, hb, hml, hown, fun w hw => hts w (List.mem_cons_of_mem _ hw)⟩
  have K := fun (pc : Nat) (x : ev_I ⊕ Nat) => ev_code_at (P := fun pc f => ev_Sim p l e R s m args below meth c Q 3 D ev_cl A s.heap ex ad0 ev_ty pc f) (K := fun pc k => ev_stop k cX5_closeByToken pc none) (t := [ev_r33_0 E, ev_r33_1 E, ev_r33_2 E, ev_r33_3 E, [], [], [], [], [], [], ev_r33_10 E]) ⟨ev_h33_0 hRf hR1 hRl hRc hRs hE hXs hA S hname, ⟨ev_h33_1 hRf hR1 hRl hRc hRs hE hXs hA S hname, ⟨ev_h33_2 hRf hR1 hRl hRc hRs hE hXs hA S hname, ⟨ev_h33_3 hRf hR1 hRl hRc hRs hE hXs hA S hname, ⟨ev_pz, ⟨ev_pz, ⟨ev_pz, ⟨ev_pz, ⟨ev_pz, ⟨ev_pz, ⟨ev_h33_10 hRf hR1 hRl hRc hRs hE hXs hA S hname, trivial⟩⟩⟩⟩⟩⟩⟩⟩⟩⟩⟩ (pc := pc) (x := x)
  exact ⟨fun pc f hf => K pc _ hf, fun pc k hk => K pc _ hk⟩
theorem ev_t34 {l : Launch} {D : va_G} {A : Nat → Prop} {ex : Nat → Value} : k_TbQ l D ev_cl A ex ev_ty (ev_XT A ex) ev_y ev_b ev_nL ev_ret ev_ws ev_cm ev_sm 0 150 34 ev_m34 := by
  refine Or.inr ⟨by decide +kernel, ⟨ev_W, Or.inl rfl⟩, fun d E hd6 hE p e R s m args below meth c Q ad0 hx hb hml hname hown hts hXs hA hRf0 hR0 hRl hRc hRs => ?_⟩
  have hRf := hRf0.imp_right And.right
  have hR1 : 1 ≤ R.frames := hR0.resolve_left (by decide)
  have S : CallFix p m c cX5_cutCode 4 s args ev_W RX5 := ⟨hx, hb, hml, hown, fun w hw => hts w (List.mem_cons_of_mem _ hw)⟩
  have K := fun (pc : Nat) (x : ev_I ⊕ Nat) => ev_code_at (P := fun pc f => ev_Sim p l e R s m args below meth c Q 4 D ev_cl A s.heap ex ad0 ev_ty pc f) (K := fun pc k => ev_stop k cX5_cutCode pc (some (.array .int))) (t := [ev_r34_0 E, ev_r34_1 E, ev_r34_2 E, ev_r34_3 E]) ⟨ev_h34_0 hRf hR1 hRl hRc hRs hE hXs hA S hname, ⟨ev_h34_1 hRf hR1 hRl hRc hRs hE hXs hA S hname, ⟨ev_h34_2 hRf hR1 hRl hRc hRs hE hXs hA S hname, ⟨ev_h34_3 hRf hR1 hRl hRc hRs hE hXs hA S hname, trivial⟩⟩⟩⟩ (pc := pc) (x := x)
  exact ⟨fun pc f hf => K pc _ hf, fun pc k hk => K pc _ hk⟩
theorem ev_t35 {l : Launch} {D : va_G} {A : Nat → Prop} {ex : Nat → Value} : k_TbQ l D ev_cl A ex ev_ty (ev_XT A ex) ev_y ev_b ev_nL ev_ret ev_ws ev_cm ev_sm 0 150 35 ev_m35 := by
  refine Or.inr ⟨by decide +kernel, ⟨ev_W, Or.inl rfl⟩, fun d E hd6 hE p e R s m args below meth c Q ad0 hx hb hml hname hown hts hXs hA hRf0 hR0 hRl hRc hRs => ?_⟩
  have hRf := hRf0.imp_right And.right
  have hR1 : 1 ≤ R.frames := hR0.resolve_left (by decide)
  have S : CallFix p m c cX5_emit 3 s args ev_W RX5 := ⟨hx, hb, hml, hown, fun w hw => hts w (List.mem_cons_of_mem _ hw)⟩
  have K := fun (pc : Nat) (x : ev_I ⊕ Nat) => ev_code_at (P := fun pc f => ev_Sim p l e R s m args below meth c Q 3 D ev_cl A s.heap ex ad0 ev_ty pc f) (K := fun pc k => ev_stop k cX5_emit pc none) (t := [ev_r35_0 E, [], ev_r35_2 E, ev_r35_3 E]) ⟨ev_h35_0 hRf hR1 hRl hRc hRs hE hXs hA S hname, ⟨ev_pz, ⟨ev_h35_2 hRf hR1 hRl hRc hRs hE hXs hA S hname, ⟨ev_h35_3 hRf hR1 hRl hRc hRs hE hXs hA S hname, trivial⟩⟩⟩⟩ (pc := pc) (x := x)
  exact ⟨fun pc f hf => K pc _ hf, fun pc k hk => K pc _ hk⟩
theorem ev_t36 {l : Launch} {D : va_G} {A : Nat → Prop} {ex : Nat → Value} : k_TbQ l D ev_cl A ex ev_ty (ev_XT A ex) ev_y ev_b ev_nL ev_ret ev_ws ev_cm ev_sm 0 150 36 ev_m36 := by
  refine Or.inr ⟨by decide +kernel, ⟨ev_W, Or.inl rfl⟩, fun d E hd6 hE p e R s m args below meth c Q ad0 hx hb hml hname hown hts hXs hA hRf0 hR0 hRl hRc hRs => ?_⟩
  have hRf := hRf0.imp_right And.right
  have hR1 : 1 ≤ R.frames := hR0.resolve_left (by decide)
  have S : CallFix p m c cX5_endText 5 s args ev_W RX5 := ⟨hx, hb, hml, hown, fun w hw => hts w (List.mem_cons_of_mem _ hw)⟩
  have K := fun (pc : Nat) (x : ev_I ⊕ Nat) => ev_code_at (P := fun pc f => ev_Sim p l e R s m args below meth c Q 5 D ev_cl A s.heap ex ad0 ev_ty pc f) (K := fun pc k => ev_stop k cX5_endText pc none) (t := [ev_r36_0 E, ev_r36_1 E, ev_r36_2 E]) ⟨ev_h36_0 hRf hR1 hRl hRc hRs hE hXs hA S hname, ⟨ev_h36_1 hRf hR1 hRl hRc hRs hE hXs hA S hname, ⟨ev_h36_2 hRf hR1 hRl hRc hRs hE hXs hA S hname, trivial⟩⟩⟩ (pc := pc) (x := x)
  exact ⟨fun pc f hf => K pc _ hf, fun pc k hk => K pc _ hk⟩
theorem ev_t37 {l : Launch} {D : va_G} {A : Nat → Prop} {ex : Nat → Value} : k_TbQ l D ev_cl A ex ev_ty (ev_XT A ex) ev_y ev_b ev_nL ev_ret ev_ws ev_cm ev_sm 0 150 37 ev_m37 := by
  refine Or.inr ⟨by decide +kernel, ⟨ev_W, Or.inl rfl⟩, fun d E hd6 hE p e R s m args below meth c Q ad0 hx hb hml hname hown hts hXs hA hRf0 hR0 hRl hRc hRs => ?_⟩
  have hRf := hRf0.imp_right And.right
  have hR1 : 1 ≤ R.frames := hR0.resolve_left (by decide)
  have S : CallFix p m c cX5_endWord 5 s args ev_W RX5 := ⟨hx, hb, hml, hown, fun w hw => hts w (List.mem_cons_of_mem _ hw)⟩
  have K := fun (pc : Nat) (x : ev_I ⊕ Nat) => ev_code_at (P := fun pc f => ev_Sim p l e R s m args below meth c Q 5 D ev_cl A s.heap ex ad0 ev_ty pc f) (K := fun pc k => ev_stop k cX5_endWord pc none) (t := [ev_r37_0 E, ev_r37_1 E, ev_r37_2 E, ev_r37_3 E, ev_r37_4 E, ev_r37_5 E, ev_r37_6 E, ev_r37_7 E, [], ev_r37_9 E, ev_r37_10 E, ev_r37_11 E]) ⟨ev_h37_0 hRf hR1 hRl hRc hRs hE hXs hA S hname, ⟨ev_h37_1 hRf hR1 hRl hRc hRs hE hXs hA S hname, ⟨ev_h37_2 hRf hR1 hRl hRc hRs hE hXs hA S hname, ⟨ev_h37_3 hRf hR1 hRl hRc hRs hE hXs hA S hname, ⟨ev_h37_4 hRf hR1 hRl hRc hRs hE hXs hA S hname, ⟨ev_h37_5 hRf hR1 hRl hRc hRs hE hXs hA S hname, ⟨ev_h37_6 hRf hR1 hRl hRc hRs hE hXs hA S hname, ⟨ev_h37_7 hRf hR1 hRl hRc hRs hE hXs hA S hname, ⟨ev_pz, ⟨ev_h37_9 hRf hR1 hRl hRc hRs hE hXs hA S hname, ⟨ev_h37_10 hRf hR1 hRl hRc hRs hE hXs hA S hname, ⟨ev_h37_11 hRf hR1 hRl hRc hRs hE hXs hA S hname, trivial⟩⟩⟩⟩⟩⟩⟩⟩⟩⟩⟩⟩ (pc := pc) (x := x)
  exact ⟨fun pc f hf => K pc _ hf, fun pc k hk => K pc _ hk⟩
theorem ev_t38 {l : Launch} {D : va_G} {A : Nat → Prop} {ex : Nat → Value} : k_TbQ l D ev_cl A ex ev_ty (ev_XT A ex) ev_y ev_b ev_nL ev_ret ev_ws ev_cm ev_sm 0 150 38 ev_m38 := by
  refine Or.inr ⟨by decide +kernel, ⟨ev_W, Or.inl rfl⟩, fun d E hd6 hE p e R s m args below meth c Q ad0 hx hb hml hname hown hts hXs hA hRf0 hR0 hRl hRc hRs => ?_⟩
  have hRf := hRf0.imp_right And.right
  have hR1 : 1 ≤ R.frames := hR0.resolve_left (by decide)
  have S : CallFix p m c cX5_endsWord 1 s args ev_W RX5 := ⟨hx, hb, hml, hown, fun w hw => hts w (List.mem_cons_of_mem _ hw)⟩
  have K := fun (pc : Nat) (x : ev_I ⊕ Nat) => ev_code_at (P := fun pc f => ev_Sim p l e R s m args below meth c Q 1 D ev_cl A s.heap ex ad0 ev_ty pc f) (K := fun pc k => ev_stop k cX5_endsWord pc (some .boolean)) (t := [ev_r38_0 E, [], [], [], [], ev_r38_5 E, ev_r38_6 E]) ⟨ev_h38_0 hRf hR1 hRl hRc hRs hE hXs hA S hname, ⟨ev_pz, ⟨ev_pz, ⟨ev_pz, ⟨ev_pz, ⟨ev_h38_5 hRf hR1 hRl hRc hRs hE hXs hA S hname, ⟨ev_h38_6 hRf hR1 hRl hRc hRs hE hXs hA S hname, trivial⟩⟩⟩⟩⟩⟩⟩ (pc := pc) (x := x)
  exact ⟨fun pc f hf => K pc _ hf, fun pc k hk => K pc _ hk⟩
theorem ev_t39 {l : Launch} {D : va_G} {A : Nat → Prop} {ex : Nat → Value} : k_TbQ l D ev_cl A ex ev_ty (ev_XT A ex) ev_y ev_b ev_nL ev_ret ev_ws ev_cm ev_sm 0 150 39 ev_m39 := by
  refine Or.inr ⟨by decide +kernel, ⟨ev_W, Or.inl rfl⟩, fun d E hd6 hE p e R s m args below meth c Q ad0 hx hb hml hname hown hts hXs hA hRf0 hR0 hRl hRc hRs => ?_⟩
  have hRf := hRf0.imp_right And.right
  have hR1 : 1 ≤ R.frames := hR0.resolve_left (by decide)
  have S : CallFix p m c cX5_enter 6 s args ev_W RX5 := ⟨hx, hb, hml, hown, fun w hw => hts w (List.mem_cons_of_mem _ hw)⟩
  have K := fun (pc : Nat) (x : ev_I ⊕ Nat) => ev_code_at (P := fun pc f => ev_Sim p l e R s m args below meth c Q 6 D ev_cl A s.heap ex ad0 ev_ty pc f) (K := fun pc k => ev_stop k cX5_enter pc (some (.object "TextShell$Frame"))) (t := [ev_r39_0 E, [], [], [], ev_r39_4 E, ev_r39_5 E, ev_r39_6 E, ev_r39_7 E, ev_r39_8 E]) ⟨ev_h39_0 hRf hR1 hRl hRc hRs hE hXs hA S hname, ⟨ev_pz, ⟨ev_pz, ⟨ev_pz, ⟨ev_h39_4 hRf hR1 hRl hRc hRs hE hXs hA S hname, ⟨ev_h39_5 hRf hR1 hRl hRc hRs hE hXs hA S hname, ⟨ev_h39_6 hRf hR1 hRl hRc hRs hE hXs hA S hname, ⟨ev_h39_7 hRf hR1 hRl hRc hRs hE hXs hA S hname, ⟨ev_h39_8 hRf hR1 hRl hRc hRs hE hXs hA S hname, trivial⟩⟩⟩⟩⟩⟩⟩⟩⟩ (pc := pc) (x := x)
  exact ⟨fun pc f hf => K pc _ hf, fun pc k hk => K pc _ hk⟩
theorem ev_t40 {l : Launch} {D : va_G} {A : Nat → Prop} {ex : Nat → Value} : k_TbQ l D ev_cl A ex ev_ty (ev_XT A ex) ev_y ev_b ev_nL ev_ret ev_ws ev_cm ev_sm 0 150 40 ev_m40 := by
  refine Or.inr ⟨by decide +kernel, ⟨ev_W, Or.inl rfl⟩, fun d E hd6 hE p e R s m args below meth c Q ad0 hx hb hml hname hown hts hXs hA hRf0 hR0 hRl hRc hRs => ?_⟩
  have hRf := hRf0.imp_right And.right
  have hR1 : 1 ≤ R.frames := hR0.resolve_left (by decide)
  have S : CallFix p m c cX5_isPlain 2 s args ev_W RX5 := ⟨hx, hb, hml, hown, fun w hw => hts w (List.mem_cons_of_mem _ hw)⟩
  have K := fun (pc : Nat) (x : ev_I ⊕ Nat) => ev_code_at (P := fun pc f => ev_Sim p l e R s m args below meth c Q 2 D ev_cl A s.heap ex ad0 ev_ty pc f) (K := fun pc k => ev_stop k cX5_isPlain pc (some .boolean)) (t := [ev_r40_0 E, ev_r40_1 E, ev_r40_2 E]) ⟨ev_h40_0 hRf hR1 hRl hRc hRs hE hXs hA S hname, ⟨ev_h40_1 hRf hR1 hRl hRc hRs hE hXs hA S hname, ⟨ev_h40_2 hRf hR1 hRl hRc hRs hE hXs hA S hname, trivial⟩⟩⟩ (pc := pc) (x := x)
  exact ⟨fun pc f hf => K pc _ hf, fun pc k hk => K pc _ hk⟩
theorem ev_t41 {l : Launch} {D : va_G} {A : Nat → Prop} {ex : Nat → Value} : k_TbQ l D ev_cl A ex ev_ty (ev_XT A ex) ev_y ev_b ev_nL ev_ret ev_ws ev_cm ev_sm 0 150 41 ev_m41 := by
  refine Or.inr ⟨by decide +kernel, ⟨ev_W, Or.inl rfl⟩, fun d E hd6 hE p e R s m args below meth c Q ad0 hx hb hml hname hown hts hXs hA hRf0 hR0 hRl hRc hRs => ?_⟩
  have hRf := hRf0.imp_right And.right
  have hR1 : 1 ≤ R.frames := hR0.resolve_left (by decide)
  have S : CallFix p m c cX5_isRedirection 1 s args ev_W RX5 := ⟨hx, hb, hml, hown, fun w hw => hts w (List.mem_cons_of_mem _ hw)⟩
  have K := fun (pc : Nat) (x : ev_I ⊕ Nat) => ev_code_at (P := fun pc f => ev_Sim p l e R s m args below meth c Q 1 D ev_cl A s.heap ex ad0 ev_ty pc f) (K := fun pc k => ev_stop k cX5_isRedirection pc (some .boolean)) (t := [ev_r41_0 E, ev_r41_1 E]) ⟨ev_h41_0 hRf hR1 hRl hRc hRs hE hXs hA S hname, ⟨ev_h41_1 hRf hR1 hRl hRc hRs hE hXs hA S hname, trivial⟩⟩ (pc := pc) (x := x)
  exact ⟨fun pc f hf => K pc _ hf, fun pc k hk => K pc _ hk⟩
theorem ev_t42 {l : Launch} {D : va_G} {A : Nat → Prop} {ex : Nat → Value} : k_TbQ l D ev_cl A ex ev_ty (ev_XT A ex) ev_y ev_b ev_nL ev_ret ev_ws ev_cm ev_sm 0 150 42 ev_m42 := by
  refine Or.inr ⟨by decide +kernel, ⟨ev_W, Or.inl rfl⟩, fun d E hd6 hE p e R s m args below meth c Q ad0 hx hb hml hname hown hts hXs hA hRf0 hR0 hRl hRc hRs => ?_⟩
  have hRf := hRf0.imp_right And.right
  have hR1 : 1 ≤ R.frames := hR0.resolve_left (by decide)
  have S : CallFix p m c cX5_look 3 s args ev_W RX5 := ⟨hx, hb, hml, hown, fun w hw => hts w (List.mem_cons_of_mem _ hw)⟩
  have K := fun (pc : Nat) (x : ev_I ⊕ Nat) => ev_code_at (P := fun pc f => ev_Sim p l e R s m args below meth c Q 3 D ev_cl A s.heap ex ad0 ev_ty pc f) (K := fun pc k => ev_stop k cX5_look pc (some .int)) (t := [ev_r42_0 E, ev_r42_1 E, ev_r42_2 E, ev_r42_3 E, [], [], ev_r42_6 E]) ⟨ev_h42_0 hRf hR1 hRl hRc hRs hE hXs hA S hname, ⟨ev_h42_1 hRf hR1 hRl hRc hRs hE hXs hA S hname, ⟨ev_h42_2 hRf hR1 hRl hRc hRs hE hXs hA S hname, ⟨ev_h42_3 hRf hR1 hRl hRc hRs hE hXs hA S hname, ⟨ev_pz, ⟨ev_pz, ⟨ev_h42_6 hRf hR1 hRl hRc hRs hE hXs hA S hname, trivial⟩⟩⟩⟩⟩⟩⟩ (pc := pc) (x := x)
  exact ⟨fun pc f hf => K pc _ hf, fun pc k hk => K pc _ hk⟩
theorem ev_t43 {l : Launch} {D : va_G} {A : Nat → Prop} {ex : Nat → Value} : k_TbQ l D ev_cl A ex ev_ty (ev_XT A ex) ev_y ev_b ev_nL ev_ret ev_ws ev_cm ev_sm 0 150 43 ev_m43 := by
  refine Or.inr ⟨by decide +kernel, ⟨ev_W, Or.inl rfl⟩, fun d E hd6 hE p e R s m args below meth c Q ad0 hx hb hml hname hown hts hXs hA hRf0 hR0 hRl hRc hRs => ?_⟩
  have hRf := hRf0.imp_right And.right
  have hR1 : 1 ≤ R.frames := hR0.resolve_left (by decide)
  have S : CallFix p m c cX5_newline 3 s args ev_W RX5 := ⟨hx, hb, hml, hown, fun w hw => hts w (List.mem_cons_of_mem _ hw)⟩
  have K := fun (pc : Nat) (x : ev_I ⊕ Nat) => ev_code_at (P := fun pc f => ev_Sim p l e R s m args below meth c Q 3 D ev_cl A s.heap ex ad0 ev_ty pc f) (K := fun pc k => ev_stop k cX5_newline pc none) (t := [ev_r43_0 E, [], ev_r43_2 E]) ⟨ev_h43_0 hRf hR1 hRl hRc hRs hE hXs hA S hname, ⟨ev_pz, ⟨ev_h43_2 hRf hR1 hRl hRc hRs hE hXs hA S hname, trivial⟩⟩⟩ (pc := pc) (x := x)
  exact ⟨fun pc f hf => K pc _ hf, fun pc k hk => K pc _ hk⟩
theorem ev_t44 {l : Launch} {D : va_G} {A : Nat → Prop} {ex : Nat → Value} : k_TbQ l D ev_cl A ex ev_ty (ev_XT A ex) ev_y ev_b ev_nL ev_ret ev_ws ev_cm ev_sm 0 150 44 ev_m44 := by
  refine Or.inr ⟨by decide +kernel, ⟨ev_W, Or.inl rfl⟩, fun d E hd6 hE p e R s m args below meth c Q ad0 hx hb hml hname hown hts hXs hA hRf0 hR0 hRl hRc hRs => ?_⟩
  have hRf := hRf0.imp_right And.right
  have hR1 : 1 ≤ R.frames := hR0.resolve_left (by decide)
  have S : CallFix p m c cX5_nextToken 5 s args ev_W RX5 := ⟨hx, hb, hml, hown, fun w hw => hts w (List.mem_cons_of_mem _ hw)⟩
  have K := fun (pc : Nat) (x : ev_I ⊕ Nat) => ev_code_at (P := fun pc f => ev_Sim p l e R s m args below meth c Q 5 D ev_cl A s.heap ex ad0 ev_ty pc f) (K := fun pc k => ev_stop k cX5_nextToken pc none) (t := [ev_r44_0 E, ev_r44_1 E, ev_r44_2 E, ev_r44_3 E, ev_r44_4 E, ev_r44_5 E, ev_r44_6 E, ev_r44_7 E, ev_r44_8 E]) ⟨ev_h44_0 hRf hR1 hRl hRc hRs hE hXs hA S hname, ⟨ev_h44_1 hRf hR1 hRl hRc hRs hE hXs hA S hname, ⟨ev_h44_2 hRf hR1 hRl hRc hRs hE hXs hA S hname, ⟨ev_h44_3 hRf hR1 hRl hRc hRs hE hXs hA S hname, ⟨ev_h44_4 hRf hR1 hRl hRc hRs hE hXs hA S hname, ⟨ev_h44_5 hRf hR1 hRl hRc hRs hE hXs hA S hname, ⟨ev_h44_6 hRf hR1 hRl hRc hRs hE hXs hA S hname, ⟨ev_h44_7 hRf hR1 hRl hRc hRs hE hXs hA S hname, ⟨ev_h44_8 hRf hR1 hRl hRc hRs hE hXs hA S hname, trivial⟩⟩⟩⟩⟩⟩⟩⟩⟩ (pc := pc) (x := x)
  exact ⟨fun pc f hf => K pc _ hf, fun pc k hk => K pc _ hk⟩
theorem ev_t45 {l : Launch} {D : va_G} {A : Nat → Prop} {ex : Nat → Value} : k_TbQ l D ev_cl A ex ev_ty (ev_XT A ex) ev_y ev_b ev_nL ev_ret ev_ws ev_cm ev_sm 0 150 45 ev_m45 := by
  refine Or.inr ⟨by decide +kernel, ⟨ev_W, Or.inl rfl⟩, fun d E hd6 hE p e R s m args below meth c Q ad0 hx hb hml hname hown hts hXs hA hRf0 hR0 hRl hRc hRs => ?_⟩
  have hRf := hRf0.imp_right And.right
  have hR1 : 1 ≤ R.frames := hR0.resolve_left (by decide)
  have S : CallFix p m c cX5_openText 6 s args ev_W RX5 := ⟨hx, hb, hml, hown, fun w hw => hts w (List.mem_cons_of_mem _ hw)⟩
  have K := fun (pc : Nat) (x : ev_I ⊕ Nat) => ev_code_at (P := fun pc f => ev_Sim p l e R s m args below meth c Q 6 D ev_cl A s.heap ex ad0 ev_ty pc f) (K := fun pc k => ev_stop k cX5_openText pc (some (.object "TextShell$Frame"))) (t := [ev_r45_0 E, ev_r45_1 E, ev_r45_2 E, ev_r45_3 E, ev_r45_4 E]) ⟨ev_h45_0 hRf hR1 hRl hRc hRs hE hXs hA S hname, ⟨ev_h45_1 hRf hR1 hRl hRc hRs hE hXs hA S hname, ⟨ev_h45_2 hRf hR1 hRl hRc hRs hE hXs hA S hname, ⟨ev_h45_3 hRf hR1 hRl hRc hRs hE hXs hA S hname, ⟨ev_h45_4 hRf hR1 hRl hRc hRs hE hXs hA S hname, trivial⟩⟩⟩⟩⟩ (pc := pc) (x := x)
  exact ⟨fun pc f hf => K pc _ hf, fun pc k hk => K pc _ hk⟩
theorem ev_t46 {l : Launch} {D : va_G} {A : Nat → Prop} {ex : Nat → Value} : k_TbQ l D ev_cl A ex ev_ty (ev_XT A ex) ev_y ev_b ev_nL ev_ret ev_ws ev_cm ev_sm 0 150 46 ev_m46 := by
  refine Or.inr ⟨by decide +kernel, ⟨ev_W, Or.inl rfl⟩, fun d E hd6 hE p e R s m args below meth c Q ad0 hx hb hml hname hown hts hXs hA hRf0 hR0 hRl hRc hRs => ?_⟩
  have hRf := hRf0.imp_right And.right
  have hR1 : 1 ≤ R.frames := hR0.resolve_left (by decide)
  have S : CallFix p m c cX5_operator 2 s args ev_W RX5 := ⟨hx, hb, hml, hown, fun w hw => hts w (List.mem_cons_of_mem _ hw)⟩
  have K := fun (pc : Nat) (x : ev_I ⊕ Nat) => ev_code_at (P := fun pc f => ev_Sim p l e R s m args below meth c Q 2 D ev_cl A s.heap ex ad0 ev_ty pc f) (K := fun pc k => ev_stop k cX5_operator pc (some .int)) (t := [ev_r46_0 E, [], [], [], ev_r46_4 E]) ⟨ev_h46_0 hRf hR1 hRl hRc hRs hE hXs hA S hname, ⟨ev_pz, ⟨ev_pz, ⟨ev_pz, ⟨ev_h46_4 hRf hR1 hRl hRc hRs hE hXs hA S hname, trivial⟩⟩⟩⟩⟩ (pc := pc) (x := x)
  exact ⟨fun pc f hf => K pc _ hf, fun pc k hk => K pc _ hk⟩
theorem ev_t47 {l : Launch} {D : va_G} {A : Nat → Prop} {ex : Nat → Value} : k_TbQ l D ev_cl A ex ev_ty (ev_XT A ex) ev_y ev_b ev_nL ev_ret ev_ws ev_cm ev_sm 0 150 47 ev_m47 := by
  refine Or.inr ⟨by decide +kernel, ⟨ev_W, Or.inl rfl⟩, fun d E hd6 hE p e R s m args below meth c Q ad0 hx hb hml hname hown hts hXs hA hRf0 hR0 hRl hRc hRs => ?_⟩
  have hRf := hRf0.imp_right And.right
  have hR1 : 1 ≤ R.frames := hR0.resolve_left (by decide)
  have S : CallFix p m c cX5_parse 5 s args ev_W RX5 := ⟨hx, hb, hml, hown, fun w hw => hts w (List.mem_cons_of_mem _ hw)⟩
  have K := fun (pc : Nat) (x : ev_I ⊕ Nat) => ev_code_at (P := fun pc f => ev_Sim p l e R s m args below meth c Q 5 D ev_cl A s.heap ex ad0 ev_ty pc f) (K := fun pc k => ev_stop k cX5_parse pc (some .boolean)) (t := [ev_r47_0 E, ev_r47_1 E, ev_r47_2 E, ev_r47_3 E, ev_r47_4 E, ev_r47_5 E, ev_r47_6 E, ev_r47_7 E, ev_r47_8 E, ev_r47_9 E, ev_r47_10 E, ev_r47_11 E, ev_r47_12 E, ev_r47_13 E]) ⟨ev_h47_0 hRf hR1 hRl hRc hRs hE hXs hA S hname, ⟨ev_h47_1 hRf hR1 hRl hRc hRs hE hXs hA S hname, ⟨ev_h47_2 hRf hR1 hRl hRc hRs hE hXs hA S hname, ⟨ev_h47_3 hRf hR1 hRl hRc hRs hE hXs hA S hname, ⟨ev_h47_4 hRf hR1 hRl hRc hRs hE hXs hA S hname, ⟨ev_h47_5 hRf hR1 hRl hRc hRs hE hXs hA S hname, ⟨ev_h47_6 hRf hR1 hRl hRc hRs hE hXs hA S hname, ⟨ev_h47_7 hRf hR1 hRl hRc hRs hE hXs hA S hname, ⟨ev_h47_8 hRf hR1 hRl hRc hRs hE hXs hA S hname, ⟨ev_h47_9 hRf hR1 hRl hRc hRs hE hXs hA S hname, ⟨ev_h47_10 hRf hR1 hRl hRc hRs hE hXs hA S hname, ⟨ev_h47_11 hRf hR1 hRl hRc hRs hE hXs hA S hname, ⟨ev_h47_12 hRf hR1 hRl hRc hRs hE hXs hA S hname, ⟨ev_h47_13 hRf hR1 hRl hRc hRs hE hXs hA S hname, trivial⟩⟩⟩⟩⟩⟩⟩⟩⟩⟩⟩⟩⟩⟩ (pc := pc) (x := x)
  exact ⟨fun pc f hf => K pc _ hf, fun pc k hk => K pc _ hk⟩
theorem ev_t48 {l : Launch} {D : va_G} {A : Nat → Prop} {ex : Nat → Value} : k_TbQ l D ev_cl A ex ev_ty (ev_XT A ex) ev_y ev_b ev_nL ev_ret ev_ws ev_cm ev_sm 0 150 48 ev_m48 := by
  refine Or.inr ⟨by decide +kernel, ⟨ev_W, Or.inl rfl⟩, fun d E hd6 hE p e R s m args below meth c Q ad0 hx hb hml hname hown hts hXs hA hRf0 hR0 hRl hRc hRs => ?_⟩
  have hRf := hRf0.imp_right And.right
  have hR1 : 1 ≤ R.frames := hR0.resolve_left (by decide)
  have S : CallFix p m c cX5_pass 2 s args ev_W RX5 := ⟨hx, hb, hml, hown, fun w hw => hts w (List.mem_cons_of_mem _ hw)⟩
  have K := fun (pc : Nat) (x : ev_I ⊕ Nat) => ev_code_at (P := fun pc f => ev_Sim p l e R s m args below meth c Q 2 D ev_cl A s.heap ex ad0 ev_ty pc f) (K := fun pc k => ev_stop k cX5_pass pc none) (t := [ev_r48_0 E, ev_r48_1 E, ev_r48_2 E]) ⟨ev_h48_0 hRf hR1 hRl hRc hRs hE hXs hA S hname, ⟨ev_h48_1 hRf hR1 hRl hRc hRs hE hXs hA S hname, ⟨ev_h48_2 hRf hR1 hRl hRc hRs hE hXs hA S hname, trivial⟩⟩⟩ (pc := pc) (x := x)
  exact ⟨fun pc f hf => K pc _ hf, fun pc k hk => K pc _ hk⟩
theorem ev_t49 {l : Launch} {D : va_G} {A : Nat → Prop} {ex : Nat → Value} : k_TbQ l D ev_cl A ex ev_ty (ev_XT A ex) ev_y ev_b ev_nL ev_ret ev_ws ev_cm ev_sm 0 150 49 ev_m49 := by
  refine Or.inr ⟨by decide +kernel, ⟨ev_W, Or.inl rfl⟩, fun d E hd6 hE p e R s m args below meth c Q ad0 hx hb hml hname hown hts hXs hA hRf0 hR0 hRl hRc hRs => ?_⟩
  have hRf := hRf0.imp_right And.right
  have hR1 : 1 ≤ R.frames := hR0.resolve_left (by decide)
  have S : CallFix p m c cX5_replaced 5 s args ev_W RX5 := ⟨hx, hb, hml, hown, fun w hw => hts w (List.mem_cons_of_mem _ hw)⟩
  have K := fun (pc : Nat) (x : ev_I ⊕ Nat) => ev_code_at (P := fun pc f => ev_Sim p l e R s m args below meth c Q 5 D ev_cl A s.heap ex ad0 ev_ty pc f) (K := fun pc k => ev_stop k cX5_replaced pc (some .boolean)) (t := [ev_r49_0 E, ev_r49_1 E, ev_r49_2 E, ev_r49_3 E, ev_r49_4 E, ev_r49_5 E, ev_r49_6 E, ev_r49_7 E, ev_r49_8 E, ev_r49_9 E]) ⟨ev_h49_0 hRf hR1 hRl hRc hRs hE hXs hA S hname, ⟨ev_h49_1 hRf hR1 hRl hRc hRs hE hXs hA S hname, ⟨ev_h49_2 hRf hR1 hRl hRc hRs hE hXs hA S hname, ⟨ev_h49_3 hRf hR1 hRl hRc hRs hE hXs hA S hname, ⟨ev_h49_4 hRf hR1 hRl hRc hRs hE hXs hA S hname, ⟨ev_h49_5 hRf hR1 hRl hRc hRs hE hXs hA S hname, ⟨ev_h49_6 hRf hR1 hRl hRc hRs hE hXs hA S hname, ⟨ev_h49_7 hRf hR1 hRl hRc hRs hE hXs hA S hname, ⟨ev_h49_8 hRf hR1 hRl hRc hRs hE hXs hA S hname, ⟨ev_h49_9 hRf hR1 hRl hRc hRs hE hXs hA S hname, trivial⟩⟩⟩⟩⟩⟩⟩⟩⟩⟩ (pc := pc) (x := x)
  exact ⟨fun pc f hf => K pc _ hf, fun pc k hk => K pc _ hk⟩
theorem ev_t50 {l : Launch} {D : va_G} {A : Nat → Prop} {ex : Nat → Value} : k_TbQ l D ev_cl A ex ev_ty (ev_XT A ex) ev_y ev_b ev_nL ev_ret ev_ws ev_cm ev_sm 0 150 50 ev_m50 := by
  refine Or.inr ⟨by decide +kernel, ⟨ev_W, Or.inl rfl⟩, fun d E hd6 hE p e R s m args below meth c Q ad0 hx hb hml hname hown hts hXs hA hRf0 hR0 hRl hRc hRs => ?_⟩
  have hRf := hRf0.imp_right And.right
  have hR1 : 1 ≤ R.frames := hR0.resolve_left (by decide)
  have S : CallFix p m c cX5_reservedAs 3 s args ev_W RX5 := ⟨hx, hb, hml, hown, fun w hw => hts w (List.mem_cons_of_mem _ hw)⟩
  have K := fun (pc : Nat) (x : ev_I ⊕ Nat) => ev_code_at (P := fun pc f => ev_Sim p l e R s m args below meth c Q 3 D ev_cl A s.heap ex ad0 ev_ty pc f) (K := fun pc k => ev_stop k cX5_reservedAs pc (some .int)) (t := [ev_r50_0 E, ev_r50_1 E, ev_r50_2 E]) ⟨ev_h50_0 hRf hR1 hRl hRc hRs hE hXs hA S hname, ⟨ev_h50_1 hRf hR1 hRl hRc hRs hE hXs hA S hname, ⟨ev_h50_2 hRf hR1 hRl hRc hRs hE hXs hA S hname, trivial⟩⟩⟩ (pc := pc) (x := x)
  exact ⟨fun pc f hf => K pc _ hf, fun pc k hk => K pc _ hk⟩
theorem ev_t51 {l : Launch} {D : va_G} {A : Nat → Prop} {ex : Nat → Value} : k_TbQ l D ev_cl A ex ev_ty (ev_XT A ex) ev_y ev_b ev_nL ev_ret ev_ws ev_cm ev_sm 0 150 51 ev_m51 := by
  refine Or.inr ⟨by decide +kernel, ⟨ev_W, Or.inl rfl⟩, fun d E hd6 hE p e R s m args below meth c Q ad0 hx hb hml hname hown hts hXs hA hRf0 hR0 hRl hRc hRs => ?_⟩
  have hRf := hRf0.imp_right And.right
  have hR1 : 1 ≤ R.frames := hR0.resolve_left (by decide)
  have S : CallFix p m c cX5_skipBlanks 6 s args ev_W RX5 := ⟨hx, hb, hml, hown, fun w hw => hts w (List.mem_cons_of_mem _ hw)⟩
  have K := fun (pc : Nat) (x : ev_I ⊕ Nat) => ev_code_at (P := fun pc f => ev_Sim p l e R s m args below meth c Q 6 D ev_cl A s.heap ex ad0 ev_ty pc f) (K := fun pc k => ev_stop k cX5_skipBlanks pc (some .boolean)) (t := [ev_r51_0 E, ev_r51_1 E, ev_r51_2 E, [], [], [], ev_r51_6 E, ev_r51_7 E, ev_r51_8 E, ev_r51_9 E, ev_r51_10 E, ev_r51_11 E, ev_r51_12 E, ev_r51_13 E]) ⟨ev_h51_0 hRf hR1 hRl hRc hRs hE hXs hA S hname, ⟨ev_h51_1 hRf hR1 hRl hRc hRs hE hXs hA S hname, ⟨ev_h51_2 hRf hR1 hRl hRc hRs hE hXs hA S hname, ⟨ev_pz, ⟨ev_pz, ⟨ev_pz, ⟨ev_h51_6 hRf hR1 hRl hRc hRs hE hXs hA S hname, ⟨ev_h51_7 hRf hR1 hRl hRc hRs hE hXs hA S hname, ⟨ev_h51_8 hRf hR1 hRl hRc hRs hE hXs hA S hname, ⟨ev_h51_9 hRf hR1 hRl hRc hRs hE hXs hA S hname, ⟨ev_h51_10 hRf hR1 hRl hRc hRs hE hXs hA S hname, ⟨ev_h51_11 hRf hR1 hRl hRc hRs hE hXs hA S hname, ⟨ev_h51_12 hRf hR1 hRl hRc hRs hE hXs hA S hname, ⟨ev_h51_13 hRf hR1 hRl hRc hRs hE hXs hA S hname, trivial⟩⟩⟩⟩⟩⟩⟩⟩⟩⟩⟩⟩⟩⟩ (pc := pc) (x := x)
  exact ⟨fun pc f hf => K pc _ hf, fun pc k hk => K pc _ hk⟩
theorem ev_t52 {l : Launch} {D : va_G} {A : Nat → Prop} {ex : Nat → Value} : k_TbQ l D ev_cl A ex ev_ty (ev_XT A ex) ev_y ev_b ev_nL ev_ret ev_ws ev_cm ev_sm 0 150 52 ev_m52 := by
  refine Or.inr ⟨by decide +kernel, ⟨ev_W, Or.inl rfl⟩, fun d E hd6 hE p e R s m args below meth c Q ad0 hx hb hml hname hown hts hXs hA hRf0 hR0 hRl hRc hRs => ?_⟩
  have hRf := hRf0.imp_right And.right
  have hR1 : 1 ≤ R.frames := hR0.resolve_left (by decide)
  have S : CallFix p m c cX5_told 9 s args ev_W RX5 := ⟨hx, hb, hml, hown, fun w hw => hts w (List.mem_cons_of_mem _ hw)⟩
  have K := fun (pc : Nat) (x : ev_I ⊕ Nat) => ev_code_at (P := fun pc f => ev_Sim p l e R s m args below meth c Q 9 D ev_cl A s.heap ex ad0 ev_ty pc f) (K := fun pc k => ev_stop k cX5_told pc (some (.object "TextShell$Row"))) (t := [ev_r52_0 E, ev_r52_1 E, ev_r52_2 E, ev_r52_3 E, ev_r52_4 E, ev_r52_5 E, ev_r52_6 E, ev_r52_7 E]) ⟨ev_h52_0 hRf hR1 hRl hRc hRs hE hXs hA S hname, ⟨ev_h52_1 hRf hR1 hRl hRc hRs hE hXs hA S hname, ⟨ev_h52_2 hRf hR1 hRl hRc hRs hE hXs hA S hname, ⟨ev_h52_3 hRf hR1 hRl hRc hRs hE hXs hA S hname, ⟨ev_h52_4 hRf hR1 hRl hRc hRs hE hXs hA S hname, ⟨ev_h52_5 hRf hR1 hRl hRc hRs hE hXs hA S hname, ⟨ev_h52_6 hRf hR1 hRl hRc hRs hE hXs hA S hname, ⟨ev_h52_7 hRf hR1 hRl hRc hRs hE hXs hA S hname, trivial⟩⟩⟩⟩⟩⟩⟩⟩ (pc := pc) (x := x)
  exact ⟨fun pc f hf => K pc _ hf, fun pc k hk => K pc _ hk⟩
theorem ev_t53 {l : Launch} {D : va_G} {A : Nat → Prop} {ex : Nat → Value} : k_TbQ l D ev_cl A ex ev_ty (ev_XT A ex) ev_y ev_b ev_nL ev_ret ev_ws ev_cm ev_sm 0 150 53 ev_m53 := by
  refine Or.inr ⟨by decide +kernel, ⟨ev_W, Or.inl rfl⟩, fun d E hd6 hE p e R s m args below meth c Q ad0 hx hb hml hname hown hts hXs hA hRf0 hR0 hRl hRc hRs => ?_⟩
  have hRf := hRf0.imp_right And.right
  have hR1 : 1 ≤ R.frames := hR0.resolve_left (by decide)
  have S : CallFix p m c cX5_top 1 s args ev_W RX5 := ⟨hx, hb, hml, hown, fun w hw => hts w (List.mem_cons_of_mem _ hw)⟩
  have K := fun (pc : Nat) (x : ev_I ⊕ Nat) => ev_code_at (P := fun pc f => ev_Sim p l e R s m args below meth c Q 1 D ev_cl A s.heap ex ad0 ev_ty pc f) (K := fun pc k => ev_stop k cX5_top pc (some (.object "TextShell$Frame"))) (t := [ev_r53_0 E, ev_r53_1 E]) ⟨ev_h53_0 hRf hR1 hRl hRc hRs hE hXs hA S hname, ⟨ev_h53_1 hRf hR1 hRl hRc hRs hE hXs hA S hname, trivial⟩⟩ (pc := pc) (x := x)
  exact ⟨fun pc f hf => K pc _ hf, fun pc k hk => K pc _ hk⟩
theorem ev_t54 {l : Launch} {D : va_G} {A : Nat → Prop} {ex : Nat → Value} : k_TbQ l D ev_cl A ex ev_ty (ev_XT A ex) ev_y ev_b ev_nL ev_ret ev_ws ev_cm ev_sm 0 150 54 ev_m54 := by
  refine Or.inr ⟨by decide +kernel, ⟨ev_W, Or.inl rfl⟩, fun d E hd6 hE p e R s m args below meth c Q ad0 hx hb hml hname hown hts hXs hA hRf0 hR0 hRl hRc hRs => ?_⟩
  have hRf := hRf0.imp_right And.right
  have hR1 : 1 ≤ R.frames := hR0.resolve_left (by decide)
  have S : CallFix p m c cX6_init 2 s args ev_W RX6 := ⟨hx, hb, hml, hown, fun w hw => hts w (List.mem_cons_of_mem _ hw)⟩
  have K := fun (pc : Nat) (x : ev_I ⊕ Nat) => ev_code_at (P := fun pc f => ev_Sim p l e R s m args below meth c Q 2 D ev_cl A s.heap ex ad0 ev_ty pc f) (K := fun pc k => ev_stop k cX6_init pc none) (t := [ev_r54_0 E, ev_r54_1 E]) ⟨ev_h54_0 hRf hR1 hRl hRc hRs hE hXs hA S hname, ⟨ev_h54_1 hRf hR1 hRl hRc hRs hE hXs hA S hname, trivial⟩⟩ (pc := pc) (x := x)
  exact ⟨fun pc f hf => K pc _ hf, fun pc k hk => K pc _ hk⟩
theorem ev_t55 {l : Launch} {D : va_G} {A : Nat → Prop} {ex : Nat → Value} : k_TbQ l D ev_cl A ex ev_ty (ev_XT A ex) ev_y ev_b ev_nL ev_ret ev_ws ev_cm ev_sm 0 150 55 ev_m55 := by
  refine Or.inr ⟨by decide +kernel, ⟨ev_W, Or.inl rfl⟩, fun d E hd6 hE p e R s m args below meth c Q ad0 hx hb hml hname hown hts hXs hA hRf0 hR0 hRl hRc hRs => ?_⟩
  have hRf := hRf0.imp_right And.right
  have hR1 : 1 ≤ R.frames := hR0.resolve_left (by decide)
  have S : CallFix p m c cX6_init 2 s args ev_W RX6 := ⟨hx, hb, hml, hown, fun w hw => hts w (List.mem_cons_of_mem _ hw)⟩
  have K := fun (pc : Nat) (x : ev_I ⊕ Nat) => ev_code_at (P := fun pc f => ev_Sim p l e R s m args below meth c Q 2 D ev_cl A s.heap ex ad0 ev_ty pc f) (K := fun pc k => ev_stop k cX6_init pc none) (t := [ev_r55_0 E, ev_r55_1 E]) ⟨ev_h55_0 hRf hR1 hRl hRc hRs hE hXs hA S hname, ⟨ev_h55_1 hRf hR1 hRl hRc hRs hE hXs hA S hname, trivial⟩⟩ (pc := pc) (x := x)
  exact ⟨fun pc f hf => K pc _ hf, fun pc k hk => K pc _ hk⟩
theorem ev_t56 {l : Launch} {D : va_G} {A : Nat → Prop} {ex : Nat → Value} : k_TbQ l D ev_cl A ex ev_ty (ev_XT A ex) ev_y ev_b ev_nL ev_ret ev_ws ev_cm ev_sm 0 150 56 ev_m56 := by
  refine Or.inr ⟨by decide +kernel, ⟨ev_W, Or.inl rfl⟩, fun d E hd6 hE p e R s m args below meth c Q ad0 hx hb hml hname hown hts hXs hA hRf0 hR0 hRl hRc hRs => ?_⟩
  have hRf := hRf0.imp_right And.right
  have hR1 : 1 ≤ R.frames := hR0.resolve_left (by decide)
  have S : CallFix p m c cX6_init 2 s args ev_W RX6 := ⟨hx, hb, hml, hown, fun w hw => hts w (List.mem_cons_of_mem _ hw)⟩
  have K := fun (pc : Nat) (x : ev_I ⊕ Nat) => ev_code_at (P := fun pc f => ev_Sim p l e R s m args below meth c Q 2 D ev_cl A s.heap ex ad0 ev_ty pc f) (K := fun pc k => ev_stop k cX6_init pc none) (t := [ev_r56_0 E, ev_r56_1 E]) ⟨ev_h56_0 hRf hR1 hRl hRc hRs hE hXs hA S hname, ⟨ev_h56_1 hRf hR1 hRl hRc hRs hE hXs hA S hname, trivial⟩⟩ (pc := pc) (x := x)
  exact ⟨fun pc f hf => K pc _ hf, fun pc k hk => K pc _ hk⟩
theorem ev_t57 {l : Launch} {D : va_G} {A : Nat → Prop} {ex : Nat → Value} : k_TbQ l D ev_cl A ex ev_ty (ev_XT A ex) ev_y ev_b ev_nL ev_ret ev_ws ev_cm ev_sm 0 150 57 ev_m57 := by
  refine Or.inr ⟨by decide +kernel, ⟨ev_W, Or.inl rfl⟩, fun d E hd6 hE p e R s m args below meth c Q ad0 hx hb hml hname hown hts hXs hA hRf0 hR0 hRl hRc hRs => ?_⟩
  have hRf := hRf0.imp_right And.right
  have hR1 : 1 ≤ R.frames := hR0.resolve_left (by decide)
  have S : CallFix p m c cX6_add 3 s args ev_W RX6 := ⟨hx, hb, hml, hown, fun w hw => hts w (List.mem_cons_of_mem _ hw)⟩
  have K := fun (pc : Nat) (x : ev_I ⊕ Nat) => ev_code_at (P := fun pc f => ev_Sim p l e R s m args below meth c Q 3 D ev_cl A s.heap ex ad0 ev_ty pc f) (K := fun pc k => ev_stop k cX6_add pc none) (t := [ev_r57_0 E, ev_r57_1 E, ev_r57_2 E, ev_r57_3 E, ev_r57_4 E, ev_r57_5 E]) ⟨ev_h57_0 hRf hR1 hRl hRc hRs hE hXs hA S hname, ⟨ev_h57_1 hRf hR1 hRl hRc hRs hE hXs hA S hname, ⟨ev_h57_2 hRf hR1 hRl hRc hRs hE hXs hA S hname, ⟨ev_h57_3 hRf hR1 hRl hRc hRs hE hXs hA S hname, ⟨ev_h57_4 hRf hR1 hRl hRc hRs hE hXs hA S hname, ⟨ev_h57_5 hRf hR1 hRl hRc hRs hE hXs hA S hname, trivial⟩⟩⟩⟩⟩⟩ (pc := pc) (x := x)
  exact ⟨fun pc f hf => K pc _ hf, fun pc k hk => K pc _ hk⟩
theorem ev_t58 {l : Launch} {D : va_G} {A : Nat → Prop} {ex : Nat → Value} : k_TbQ l D ev_cl A ex ev_ty (ev_XT A ex) ev_y ev_b ev_nL ev_ret ev_ws ev_cm ev_sm 0 150 58 ev_m58 := by
  refine Or.inr ⟨by decide +kernel, ⟨ev_W, Or.inl rfl⟩, fun d E hd6 hE p e R s m args below meth c Q ad0 hx hb hml hname hown hts hXs hA hRf0 hR0 hRl hRc hRs => ?_⟩
  have hRf := hRf0.imp_right And.right
  have hR1 : 1 ≤ R.frames := hR0.resolve_left (by decide)
  have S : CallFix p m c cX6_add 3 s args ev_W RX6 := ⟨hx, hb, hml, hown, fun w hw => hts w (List.mem_cons_of_mem _ hw)⟩
  have K := fun (pc : Nat) (x : ev_I ⊕ Nat) => ev_code_at (P := fun pc f => ev_Sim p l e R s m args below meth c Q 3 D ev_cl A s.heap ex ad0 ev_ty pc f) (K := fun pc k => ev_stop k cX6_add pc none) (t := [ev_r58_0 E, ev_r58_1 E, ev_r58_2 E, ev_r58_3 E, ev_r58_4 E, ev_r58_5 E]) ⟨ev_h58_0 hRf hR1 hRl hRc hRs hE hXs hA S hname, ⟨ev_h58_1 hRf hR1 hRl hRc hRs hE hXs hA S hname, ⟨ev_h58_2 hRf hR1 hRl hRc hRs hE hXs hA S hname, ⟨ev_h58_3 hRf hR1 hRl hRc hRs hE hXs hA S hname, ⟨ev_h58_4 hRf hR1 hRl hRc hRs hE hXs hA S hname, ⟨ev_h58_5 hRf hR1 hRl hRc hRs hE hXs hA S hname, trivial⟩⟩⟩⟩⟩⟩ (pc := pc) (x := x)
  exact ⟨fun pc f hf => K pc _ hf, fun pc k hk => K pc _ hk⟩
theorem ev_t59 {l : Launch} {D : va_G} {A : Nat → Prop} {ex : Nat → Value} : k_TbQ l D ev_cl A ex ev_ty (ev_XT A ex) ev_y ev_b ev_nL ev_ret ev_ws ev_cm ev_sm 0 150 59 ev_m59 := by
  refine Or.inr ⟨by decide +kernel, ⟨ev_W, Or.inl rfl⟩, fun d E hd6 hE p e R s m args below meth c Q ad0 hx hb hml hname hown hts hXs hA hRf0 hR0 hRl hRc hRs => ?_⟩
  have hRf := hRf0.imp_right And.right
  have hR1 : 1 ≤ R.frames := hR0.resolve_left (by decide)
  have S : CallFix p m c cX6_add 3 s args ev_W RX6 := ⟨hx, hb, hml, hown, fun w hw => hts w (List.mem_cons_of_mem _ hw)⟩
  have K := fun (pc : Nat) (x : ev_I ⊕ Nat) => ev_code_at (P := fun pc f => ev_Sim p l e R s m args below meth c Q 3 D ev_cl A s.heap ex ad0 ev_ty pc f) (K := fun pc k => ev_stop k cX6_add pc none) (t := [ev_r59_0 E, ev_r59_1 E, ev_r59_2 E, ev_r59_3 E, ev_r59_4 E, ev_r59_5 E]) ⟨ev_h59_0 hRf hR1 hRl hRc hRs hE hXs hA S hname, ⟨ev_h59_1 hRf hR1 hRl hRc hRs hE hXs hA S hname, ⟨ev_h59_2 hRf hR1 hRl hRc hRs hE hXs hA S hname, ⟨ev_h59_3 hRf hR1 hRl hRc hRs hE hXs hA S hname, ⟨ev_h59_4 hRf hR1 hRl hRc hRs hE hXs hA S hname, ⟨ev_h59_5 hRf hR1 hRl hRc hRs hE hXs hA S hname, trivial⟩⟩⟩⟩⟩⟩ (pc := pc) (x := x)
  exact ⟨fun pc f hf => K pc _ hf, fun pc k hk => K pc _ hk⟩
theorem ev_t60 {l : Launch} {D : va_G} {A : Nat → Prop} {ex : Nat → Value} : k_TbQ l D ev_cl A ex ev_ty (ev_XT A ex) ev_y ev_b ev_nL ev_ret ev_ws ev_cm ev_sm 0 150 60 ev_m60 := by
  refine Or.inr ⟨by decide +kernel, ⟨ev_W, Or.inl rfl⟩, fun d E hd6 hE p e R s m args below meth c Q ad0 hx hb hml hname hown hts hXs hA hRf0 hR0 hRl hRc hRs => ?_⟩
  have hRf := hRf0.imp_right And.right
  have hR1 : 1 ≤ R.frames := hR0.resolve_left (by decide)
  have S : CallFix p m c cX6_addText 3 s args ev_W RX6 := ⟨hx, hb, hml, hown, fun w hw => hts w (List.mem_cons_of_mem _ hw)⟩
  have K := fun (pc : Nat) (x : ev_I ⊕ Nat) => ev_code_at (P := fun pc f => ev_Sim p l e R s m args below meth c Q 3 D ev_cl A s.heap ex ad0 ev_ty pc f) (K := fun pc k => ev_stop k cX6_addText pc none) (t := [ev_r60_0 E, ev_r60_1 E]) ⟨ev_h60_0 hRf hR1 hRl hRc hRs hE hXs hA S hname, ⟨ev_h60_1 hRf hR1 hRl hRc hRs hE hXs hA S hname, trivial⟩⟩ (pc := pc) (x := x)
  exact ⟨fun pc f hf => K pc _ hf, fun pc k hk => K pc _ hk⟩
theorem ev_t61 {l : Launch} {D : va_G} {A : Nat → Prop} {ex : Nat → Value} : k_TbQ l D ev_cl A ex ev_ty (ev_XT A ex) ev_y ev_b ev_nL ev_ret ev_ws ev_cm ev_sm 0 150 61 ev_m61 := by
  refine Or.inr ⟨by decide +kernel, ⟨ev_W, Or.inl rfl⟩, fun d E hd6 hE p e R s m args below meth c Q ad0 hx hb hml hname hown hts hXs hA hRf0 hR0 hRl hRc hRs => ?_⟩
  have hRf := hRf0.imp_right And.right
  have hR1 : 1 ≤ R.frames := hR0.resolve_left (by decide)
  have S : CallFix p m c cX6_at 2 s args ev_W RX6 := ⟨hx, hb, hml, hown, fun w hw => hts w (List.mem_cons_of_mem _ hw)⟩
  have K := fun (pc : Nat) (x : ev_I ⊕ Nat) => ev_code_at (P := fun pc f => ev_Sim p l e R s m args below meth c Q 2 D ev_cl A s.heap ex ad0 ev_ty pc f) (K := fun pc k => ev_stop k cX6_at pc (some .int)) (t := [ev_r61_0 E, ev_r61_1 E]) ⟨ev_h61_0 hRf hR1 hRl hRc hRs hE hXs hA S hname, ⟨ev_h61_1 hRf hR1 hRl hRc hRs hE hXs hA S hname, trivial⟩⟩ (pc := pc) (x := x)
  exact ⟨fun pc f hf => K pc _ hf, fun pc k hk => K pc _ hk⟩
theorem ev_t62 {l : Launch} {D : va_G} {A : Nat → Prop} {ex : Nat → Value} : k_TbQ l D ev_cl A ex ev_ty (ev_XT A ex) ev_y ev_b ev_nL ev_ret ev_ws ev_cm ev_sm 0 150 62 ev_m62 := by
  refine Or.inr ⟨by decide +kernel, ⟨ev_W, Or.inl rfl⟩, fun d E hd6 hE p e R s m args below meth c Q ad0 hx hb hml hname hown hts hXs hA hRf0 hR0 hRl hRc hRs => ?_⟩
  have hRf := hRf0.imp_right And.right
  have hR1 : 1 ≤ R.frames := hR0.resolve_left (by decide)
  have S : CallFix p m c cX6_isAliasText 1 s args ev_W RX6 := ⟨hx, hb, hml, hown, fun w hw => hts w (List.mem_cons_of_mem _ hw)⟩
  have K := fun (pc : Nat) (x : ev_I ⊕ Nat) => ev_code_at (P := fun pc f => ev_Sim p l e R s m args below meth c Q 1 D ev_cl A s.heap ex ad0 ev_ty pc f) (K := fun pc k => ev_stop k cX6_isAliasText pc (some .boolean)) (t := [ev_r62_0 E, ev_r62_1 E]) ⟨ev_h62_0 hRf hR1 hRl hRc hRs hE hXs hA S hname, ⟨ev_h62_1 hRf hR1 hRl hRc hRs hE hXs hA S hname, trivial⟩⟩ (pc := pc) (x := x)
  exact ⟨fun pc f hf => K pc _ hf, fun pc k hk => K pc _ hk⟩
theorem ev_t63 {l : Launch} {D : va_G} {A : Nat → Prop} {ex : Nat → Value} : k_TbQ l D ev_cl A ex ev_ty (ev_XT A ex) ev_y ev_b ev_nL ev_ret ev_ws ev_cm ev_sm 0 150 63 ev_m63 := by
  refine Or.inr ⟨by decide +kernel, ⟨ev_W, Or.inl rfl⟩, fun d E hd6 hE p e R s m args below meth c Q ad0 hx hb hml hname hown hts hXs hA hRf0 hR0 hRl hRc hRs => ?_⟩
  have hRf := hRf0.imp_right And.right
  have hR1 : 1 ≤ R.frames := hR0.resolve_left (by decide)
  have S : CallFix p m c cX6_isName 1 s args ev_W RX6 := ⟨hx, hb, hml, hown, fun w hw => hts w (List.mem_cons_of_mem _ hw)⟩
  have K := fun (pc : Nat) (x : ev_I ⊕ Nat) => ev_code_at (P := fun pc f => ev_Sim p l e R s m args below meth c Q 1 D ev_cl A s.heap ex ad0 ev_ty pc f) (K := fun pc k => ev_stop k cX6_isName pc (some .boolean)) (t := [ev_r63_0 E]) ⟨ev_h63_0 hRf hR1 hRl hRc hRs hE hXs hA S hname, trivial⟩ (pc := pc) (x := x)
  exact ⟨fun pc f hf => K pc _ hf, fun pc k hk => K pc _ hk⟩
theorem ev_t64 {l : Launch} {D : va_G} {A : Nat → Prop} {ex : Nat → Value} : k_TbQ l D ev_cl A ex ev_ty (ev_XT A ex) ev_y ev_b ev_nL ev_ret ev_ws ev_cm ev_sm 0 150 64 ev_m64 := by
  refine Or.inr ⟨by decide +kernel, ⟨ev_W, Or.inl rfl⟩, fun d E hd6 hE p e R s m args below meth c Q ad0 hx hb hml hname hown hts hXs hA hRf0 hR0 hRl hRc hRs => ?_⟩
  have hRf := hRf0.imp_right And.right
  have hR1 : 1 ≤ R.frames := hR0.resolve_left (by decide)
  have S : CallFix p m c cX6_isNameUpTo 3 s args ev_W RX6 := ⟨hx, hb, hml, hown, fun w hw => hts w (List.mem_cons_of_mem _ hw)⟩
  have K := fun (pc : Nat) (x : ev_I ⊕ Nat) => ev_code_at (P := fun pc f => ev_Sim p l e R s m args below meth c Q 3 D ev_cl A s.heap ex ad0 ev_ty pc f) (K := fun pc k => ev_stop k cX6_isNameUpTo pc (some .boolean)) (t := [ev_r64_0 E, ev_r64_1 E, ev_r64_2 E]) ⟨ev_h64_0 hRf hR1 hRl hRc hRs hE hXs hA S hname, ⟨ev_h64_1 hRf hR1 hRl hRc hRs hE hXs hA S hname, ⟨ev_h64_2 hRf hR1 hRl hRc hRs hE hXs hA S hname, trivial⟩⟩⟩ (pc := pc) (x := x)
  exact ⟨fun pc f hf => K pc _ hf, fun pc k hk => K pc _ hk⟩
theorem ev_t65 {l : Launch} {D : va_G} {A : Nat → Prop} {ex : Nat → Value} : k_TbQ l D ev_cl A ex ev_ty (ev_XT A ex) ev_y ev_b ev_nL ev_ret ev_ws ev_cm ev_sm 0 150 65 ev_m65 := by
  refine Or.inr ⟨by decide +kernel, ⟨ev_W, Or.inl rfl⟩, fun d E hd6 hE p e R s m args below meth c Q ad0 hx hb hml hname hown hts hXs hA hRf0 hR0 hRl hRc hRs => ?_⟩
  have hRf := hRf0.imp_right And.right
  have hR1 : 1 ≤ R.frames := hR0.resolve_left (by decide)
  have S : CallFix p m c cX6_isText 2 s args ev_W RX6 := ⟨hx, hb, hml, hown, fun w hw => hts w (List.mem_cons_of_mem _ hw)⟩
  have K := fun (pc : Nat) (x : ev_I ⊕ Nat) => ev_code_at (P := fun pc f => ev_Sim p l e R s m args below meth c Q 2 D ev_cl A s.heap ex ad0 ev_ty pc f) (K := fun pc k => ev_stop k cX6_isText pc (some .boolean)) (t := [ev_r65_0 E, ev_r65_1 E]) ⟨ev_h65_0 hRf hR1 hRl hRc hRs hE hXs hA S hname, ⟨ev_h65_1 hRf hR1 hRl hRc hRs hE hXs hA S hname, trivial⟩⟩ (pc := pc) (x := x)
  exact ⟨fun pc f hf => K pc _ hf, fun pc k hk => K pc _ hk⟩
theorem ev_t66 {l : Launch} {D : va_G} {A : Nat → Prop} {ex : Nat → Value} : k_TbQ l D ev_cl A ex ev_ty (ev_XT A ex) ev_y ev_b ev_nL ev_ret ev_ws ev_cm ev_sm 0 150 66 ev_m66 := by
  refine Or.inr ⟨by decide +kernel, ⟨ev_W, Or.inl rfl⟩, fun d E hd6 hE p e R s m args below meth c Q ad0 hx hb hml hname hown hts hXs hA hRf0 hR0 hRl hRc hRs => ?_⟩
  have hRf := hRf0.imp_right And.right
  have hR1 : 1 ≤ R.frames := hR0.resolve_left (by decide)
  have S : CallFix p m c cX6_part 5 s args ev_W RX6 := ⟨hx, hb, hml, hown, fun w hw => hts w (List.mem_cons_of_mem _ hw)⟩
  have K := fun (pc : Nat) (x : ev_I ⊕ Nat) => ev_code_at (P := fun pc f => ev_Sim p l e R s m args below meth c Q 5 D ev_cl A s.heap ex ad0 ev_ty pc f) (K := fun pc k => ev_stop k cX6_part pc (some (.object "TextShell$Row"))) (t := [ev_r66_0 E, ev_r66_1 E, ev_r66_2 E, ev_r66_3 E, ev_r66_4 E, ev_r66_5 E]) ⟨ev_h66_0 hRf hR1 hRl hRc hRs hE hXs hA S hname, ⟨ev_h66_1 hRf hR1 hRl hRc hRs hE hXs hA S hname, ⟨ev_h66_2 hRf hR1 hRl hRc hRs hE hXs hA S hname, ⟨ev_h66_3 hRf hR1 hRl hRc hRs hE hXs hA S hname, ⟨ev_h66_4 hRf hR1 hRl hRc hRs hE hXs hA S hname, ⟨ev_h66_5 hRf hR1 hRl hRc hRs hE hXs hA S hname, trivial⟩⟩⟩⟩⟩⟩ (pc := pc) (x := x)
  exact ⟨fun pc f hf => K pc _ hf, fun pc k hk => K pc _ hk⟩
theorem ev_t67 {l : Launch} {D : va_G} {A : Nat → Prop} {ex : Nat → Value} : k_TbQ l D ev_cl A ex ev_ty (ev_XT A ex) ev_y ev_b ev_nL ev_ret ev_ws ev_cm ev_sm 0 150 67 ev_m67 := by
  refine Or.inr ⟨by decide +kernel, ⟨ev_W, Or.inl rfl⟩, fun d E hd6 hE p e R s m args below meth c Q ad0 hx hb hml hname hown hts hXs hA hRf0 hR0 hRl hRc hRs => ?_⟩
  have hRf := hRf0.imp_right And.right
  have hR1 : 1 ≤ R.frames := hR0.resolve_left (by decide)
  have S : CallFix p m c cX6_part 5 s args ev_W RX6 := ⟨hx, hb, hml, hown, fun w hw => hts w (List.mem_cons_of_mem _ hw)⟩
  have K := fun (pc : Nat) (x : ev_I ⊕ Nat) => ev_code_at (P := fun pc f => ev_Sim p l e R s m args below meth c Q 5 D ev_cl A s.heap ex ad0 ev_ty pc f) (K := fun pc k => ev_stop k cX6_part pc (some (.object "TextShell$Row"))) (t := [ev_r67_0 E, ev_r67_1 E, ev_r67_2 E, ev_r67_3 E, ev_r67_4 E, ev_r67_5 E]) ⟨ev_h67_0 hRf hR1 hRl hRc hRs hE hXs hA S hname, ⟨ev_h67_1 hRf hR1 hRl hRc hRs hE hXs hA S hname, ⟨ev_h67_2 hRf hR1 hRl hRc hRs hE hXs hA S hname, ⟨ev_h67_3 hRf hR1 hRl hRc hRs hE hXs hA S hname, ⟨ev_h67_4 hRf hR1 hRl hRc hRs hE hXs hA S hname, ⟨ev_h67_5 hRf hR1 hRl hRc hRs hE hXs hA S hname, trivial⟩⟩⟩⟩⟩⟩ (pc := pc) (x := x)
  exact ⟨fun pc f hf => K pc _ hf, fun pc k hk => K pc _ hk⟩
theorem ev_t68 {l : Launch} {D : va_G} {A : Nat → Prop} {ex : Nat → Value} : k_TbQ l D ev_cl A ex ev_ty (ev_XT A ex) ev_y ev_b ev_nL ev_ret ev_ws ev_cm ev_sm 0 150 68 ev_m68 := by
  refine Or.inr ⟨by decide +kernel, ⟨ev_W, Or.inl rfl⟩, fun d E hd6 hE p e R s m args below meth c Q ad0 hx hb hml hname hown hts hXs hA hRf0 hR0 hRl hRc hRs => ?_⟩
  have hRf := hRf0.imp_right And.right
  have hR1 : 1 ≤ R.frames := hR0.resolve_left (by decide)
  have S : CallFix p m c cX6_place 5 s args ev_W RX6 := ⟨hx, hb, hml, hown, fun w hw => hts w (List.mem_cons_of_mem _ hw)⟩
  have K := fun (pc : Nat) (x : ev_I ⊕ Nat) => ev_code_at (P := fun pc f => ev_Sim p l e R s m args below meth c Q 5 D ev_cl A s.heap ex ad0 ev_ty pc f) (K := fun pc k => ev_stop k cX6_place pc (some .int)) (t := [ev_r68_0 E, ev_r68_1 E, ev_r68_2 E]) ⟨ev_h68_0 hRf hR1 hRl hRc hRs hE hXs hA S hname, ⟨ev_h68_1 hRf hR1 hRl hRc hRs hE hXs hA S hname, ⟨ev_h68_2 hRf hR1 hRl hRc hRs hE hXs hA S hname, trivial⟩⟩⟩ (pc := pc) (x := x)
  exact ⟨fun pc f hf => K pc _ hf, fun pc k hk => K pc _ hk⟩
theorem ev_t69 {l : Launch} {D : va_G} {A : Nat → Prop} {ex : Nat → Value} : k_TbQ l D ev_cl A ex ev_ty (ev_XT A ex) ev_y ev_b ev_nL ev_ret ev_ws ev_cm ev_sm 0 150 69 ev_m69 := by
  refine Or.inr ⟨by decide +kernel, ⟨ev_W, Or.inl rfl⟩, fun d E hd6 hE p e R s m args below meth c Q ad0 hx hb hml hname hown hts hXs hA hRf0 hR0 hRl hRc hRs => ?_⟩
  have hRf := hRf0.imp_right And.right
  have hR1 : 1 ≤ R.frames := hR0.resolve_left (by decide)
  have S : CallFix p m c cX6_same 3 s args ev_W RX6 := ⟨hx, hb, hml, hown, fun w hw => hts w (List.mem_cons_of_mem _ hw)⟩
  have K := fun (pc : Nat) (x : ev_I ⊕ Nat) => ev_code_at (P := fun pc f => ev_Sim p l e R s m args below meth c Q 3 D ev_cl A s.heap ex ad0 ev_ty pc f) (K := fun pc k => ev_stop k cX6_same pc (some .boolean)) (t := [ev_r69_0 E, ev_r69_1 E, ev_r69_2 E, ev_r69_3 E, ev_r69_4 E]) ⟨ev_h69_0 hRf hR1 hRl hRc hRs hE hXs hA S hname, ⟨ev_h69_1 hRf hR1 hRl hRc hRs hE hXs hA S hname, ⟨ev_h69_2 hRf hR1 hRl hRc hRs hE hXs hA S hname, ⟨ev_h69_3 hRf hR1 hRl hRc hRs hE hXs hA S hname, ⟨ev_h69_4 hRf hR1 hRl hRc hRs hE hXs hA S hname, trivial⟩⟩⟩⟩⟩ (pc := pc) (x := x)
  exact ⟨fun pc f hf => K pc _ hf, fun pc k hk => K pc _ hk⟩
theorem ev_t70 {l : Launch} {D : va_G} {A : Nat → Prop} {ex : Nat → Value} : k_TbQ l D ev_cl A ex ev_ty (ev_XT A ex) ev_y ev_b ev_nL ev_ret ev_ws ev_cm ev_sm 0 150 70 ev_m70 := by
  refine Or.inr ⟨by decide +kernel, ⟨ev_W, Or.inl rfl⟩, fun d E hd6 hE p e R s m args below meth c Q ad0 hx hb hml hname hown hts hXs hA hRf0 hR0 hRl hRc hRs => ?_⟩
  have hRf := hRf0.imp_right And.right
  have hR1 : 1 ≤ R.frames := hR0.resolve_left (by decide)
  have S : CallFix p m c cX7_init 3 s args ev_W RX7 := ⟨hx, hb, hml, hown, fun w hw => hts w (List.mem_cons_of_mem _ hw)⟩
  have K := fun (pc : Nat) (x : ev_I ⊕ Nat) => ev_code_at (P := fun pc f => ev_Sim p l e R s m args below meth c Q 3 D ev_cl A s.heap ex ad0 ev_ty pc f) (K := fun pc k => ev_stop k cX7_init pc none) (t := [ev_r70_0 E, ev_r70_1 E, ev_r70_2 E, ev_r70_3 E, ev_r70_4 E, ev_r70_5 E, ev_r70_6 E, ev_r70_7 E, ev_r70_8 E, ev_r70_9 E, ev_r70_10 E]) ⟨ev_h70_0 hRf hR1 hRl hRc hRs hE hXs hA S hname, ⟨ev_h70_1 hRf hR1 hRl hRc hRs hE hXs hA S hname, ⟨ev_h70_2 hRf hR1 hRl hRc hRs hE hXs hA S hname, ⟨ev_h70_3 hRf hR1 hRl hRc hRs hE hXs hA S hname, ⟨ev_h70_4 hRf hR1 hRl hRc hRs hE hXs hA S hname, ⟨ev_h70_5 hRf hR1 hRl hRc hRs hE hXs hA S hname, ⟨ev_h70_6 hRf hR1 hRl hRc hRs hE hXs hA S hname, ⟨ev_h70_7 hRf hR1 hRl hRc hRs hE hXs hA S hname, ⟨ev_h70_8 hRf hR1 hRl hRc hRs hE hXs hA S hname, ⟨ev_h70_9 hRf hR1 hRl hRc hRs hE hXs hA S hname, ⟨ev_h70_10 hRf hR1 hRl hRc hRs hE hXs hA S hname, trivial⟩⟩⟩⟩⟩⟩⟩⟩⟩⟩⟩ (pc := pc) (x := x)
  exact ⟨fun pc f hf => K pc _ hf, fun pc k hk => K pc _ hk⟩
theorem ev_t71 {l : Launch} {D : va_G} {A : Nat → Prop} {ex : Nat → Value} : k_TbQ l D ev_cl A ex ev_ty (ev_XT A ex) ev_y ev_b ev_nL ev_ret ev_ws ev_cm ev_sm 0 150 71 ev_m71 := by
  refine Or.inr ⟨by decide +kernel, ⟨ev_W, Or.inl rfl⟩, fun d E hd6 hE p e R s m args below meth c Q ad0 hx hb hml hname hown hts hXs hA hRf0 hR0 hRl hRc hRs => ?_⟩
  have hRf := hRf0.imp_right And.right
  have hR1 : 1 ≤ R.frames := hR0.resolve_left (by decide)
  have S : CallFix p m c cX8_init 5 s args ev_W RX8 := ⟨hx, hb, hml, hown, fun w hw => hts w (List.mem_cons_of_mem _ hw)⟩
  have K := fun (pc : Nat) (x : ev_I ⊕ Nat) => ev_code_at (P := fun pc f => ev_Sim p l e R s m args below meth c Q 5 D ev_cl A s.heap ex ad0 ev_ty pc f) (K := fun pc k => ev_stop k cX8_init pc none) (t := [ev_r71_0 E, ev_r71_1 E]) ⟨ev_h71_0 hRf hR1 hRl hRc hRs hE hXs hA S hname, ⟨ev_h71_1 hRf hR1 hRl hRc hRs hE hXs hA S hname, trivial⟩⟩ (pc := pc) (x := x)
  exact ⟨fun pc f hf => K pc _ hf, fun pc k hk => K pc _ hk⟩
theorem ev_t72 {l : Launch} {D : va_G} {A : Nat → Prop} {ex : Nat → Value} : k_TbQ l D ev_cl A ex ev_ty (ev_XT A ex) ev_y ev_b ev_nL ev_ret ev_ws ev_cm ev_sm 0 150 72 ev_m72 := by
  refine Or.inr ⟨by decide +kernel, ⟨ev_W, Or.inl rfl⟩, fun d E hd6 hE p e R s m args below meth c Q ad0 hx hb hml hname hown hts hXs hA hRf0 hR0 hRl hRc hRs => ?_⟩
  have hRf := hRf0.imp_right And.right
  have hR1 : 1 ≤ R.frames := hR0.resolve_left (by decide)
  have S : CallFix p m c cX8_text 5 s args ev_W RX8 := ⟨hx, hb, hml, hown, fun w hw => hts w (List.mem_cons_of_mem _ hw)⟩
  have K := fun (pc : Nat) (x : ev_I ⊕ Nat) => ev_code_at (P := fun pc f => ev_Sim p l e R s m args below meth c Q 5 D ev_cl A s.heap ex ad0 ev_ty pc f) (K := fun pc k => ev_stop k cX8_text pc (some (.object "TextShell$Stream"))) (t := [ev_r72_0 E, ev_r72_1 E, ev_r72_2 E, ev_r72_3 E]) ⟨ev_h72_0 hRf hR1 hRl hRc hRs hE hXs hA S hname, ⟨ev_h72_1 hRf hR1 hRl hRc hRs hE hXs hA S hname, ⟨ev_h72_2 hRf hR1 hRl hRc hRs hE hXs hA S hname, ⟨ev_h72_3 hRf hR1 hRl hRc hRs hE hXs hA S hname, trivial⟩⟩⟩⟩ (pc := pc) (x := x)
  exact ⟨fun pc f hf => K pc _ hf, fun pc k hk => K pc _ hk⟩
theorem ev_t73 {l : Launch} {D : va_G} {A : Nat → Prop} {ex : Nat → Value} : k_TbQ l D ev_cl A ex ev_ty (ev_XT A ex) ev_y ev_b ev_nL ev_ret ev_ws ev_cm ev_sm 0 150 73 ev_m73 := by
  refine Or.inr ⟨by decide +kernel, ⟨ev_W, Or.inl rfl⟩, fun d E hd6 hE p e R s m args below meth c Q ad0 hx hb hml hname hown hts hXs hA hRf0 hR0 hRl hRc hRs => ?_⟩
  have hRf := hRf0.imp_right And.right
  have hR1 : 1 ≤ R.frames := hR0.resolve_left (by decide)
  have S : CallFix p m c cX9_init 2 s args ev_W RX9 := ⟨hx, hb, hml, hown, fun w hw => hts w (List.mem_cons_of_mem _ hw)⟩
  have K := fun (pc : Nat) (x : ev_I ⊕ Nat) => ev_code_at (P := fun pc f => ev_Sim p l e R s m args below meth c Q 2 D ev_cl A s.heap ex ad0 ev_ty pc f) (K := fun pc k => ev_stop k cX9_init pc none) (t := [ev_r73_0 E, ev_r73_1 E, ev_r73_2 E]) ⟨ev_h73_0 hRf hR1 hRl hRc hRs hE hXs hA S hname, ⟨ev_h73_1 hRf hR1 hRl hRc hRs hE hXs hA S hname, ⟨ev_h73_2 hRf hR1 hRl hRc hRs hE hXs hA S hname, trivial⟩⟩⟩ (pc := pc) (x := x)
  exact ⟨fun pc f hf => K pc _ hf, fun pc k hk => K pc _ hk⟩
theorem ev_t74 {l : Launch} {D : va_G} {A : Nat → Prop} {ex : Nat → Value} : k_TbQ l D ev_cl A ex ev_ty (ev_XT A ex) ev_y ev_b ev_nL ev_ret ev_ws ev_cm ev_sm 0 150 74 ev_m74 := by
  refine Or.inr ⟨by decide +kernel, ⟨ev_W, Or.inl rfl⟩, fun d E hd6 hE p e R s m args below meth c Q ad0 hx hb hml hname hown hts hXs hA hRf0 hR0 hRl hRc hRs => ?_⟩
  have hRf := hRf0.imp_right And.right
  have hR1 : 1 ≤ R.frames := hR0.resolve_left (by decide)
  have S : CallFix p m c cX10_init 4 s args ev_W RX10 := ⟨hx, hb, hml, hown, fun w hw => hts w (List.mem_cons_of_mem _ hw)⟩
  have K := fun (pc : Nat) (x : ev_I ⊕ Nat) => ev_code_at (P := fun pc f => ev_Sim p l e R s m args below meth c Q 4 D ev_cl A s.heap ex ad0 ev_ty pc f) (K := fun pc k => ev_stop k cX10_init pc none) (t := [ev_r74_0 E, ev_r74_1 E, ev_r74_2 E, ev_r74_3 E, ev_r74_4 E, ev_r74_5 E, ev_r74_6 E, ev_r74_7 E]) ⟨ev_h74_0 hRf hR1 hRl hRc hRs hE hXs hA S hname, ⟨ev_h74_1 hRf hR1 hRl hRc hRs hE hXs hA S hname, ⟨ev_h74_2 hRf hR1 hRl hRc hRs hE hXs hA S hname, ⟨ev_h74_3 hRf hR1 hRl hRc hRs hE hXs hA S hname, ⟨ev_h74_4 hRf hR1 hRl hRc hRs hE hXs hA S hname, ⟨ev_h74_5 hRf hR1 hRl hRc hRs hE hXs hA S hname, ⟨ev_h74_6 hRf hR1 hRl hRc hRs hE hXs hA S hname, ⟨ev_h74_7 hRf hR1 hRl hRc hRs hE hXs hA S hname, trivial⟩⟩⟩⟩⟩⟩⟩⟩ (pc := pc) (x := x)
  exact ⟨fun pc f hf => K pc _ hf, fun pc k hk => K pc _ hk⟩
theorem ev_t75 {l : Launch} {D : va_G} {A : Nat → Prop} {ex : Nat → Value} : k_TbQ l D ev_cl A ex ev_ty (ev_XT A ex) ev_y ev_b ev_nL ev_ret ev_ws ev_cm ev_sm 0 150 75 ev_m75 := by
  refine Or.inr ⟨by decide +kernel, ⟨ev_W, Or.inl rfl⟩, fun d E hd6 hE p e R s m args below meth c Q ad0 hx hb hml hname hown hts hXs hA hRf0 hR0 hRl hRc hRs => ?_⟩
  have hRf := hRf0.imp_right And.right
  have hR1 : 1 ≤ R.frames := hR0.resolve_left (by decide)
  have S : CallFix p m c cX11_init 2 s args ev_W RX11 := ⟨hx, hb, hml, hown, fun w hw => hts w (List.mem_cons_of_mem _ hw)⟩
  have K := fun (pc : Nat) (x : ev_I ⊕ Nat) => ev_code_at (P := fun pc f => ev_Sim p l e R s m args below meth c Q 2 D ev_cl A s.heap ex ad0 ev_ty pc f) (K := fun pc k => ev_stop k cX11_init pc none) (t := [ev_r75_0 E, ev_r75_1 E]) ⟨ev_h75_0 hRf hR1 hRl hRc hRs hE hXs hA S hname, ⟨ev_h75_1 hRf hR1 hRl hRc hRs hE hXs hA S hname, trivial⟩⟩ (pc := pc) (x := x)
  exact ⟨fun pc f hf => K pc _ hf, fun pc k hk => K pc _ hk⟩
theorem ev_tL {p : Program} {l : Launch} {e : Env} {s : State} {m : MethodId} {args : Array Value} {below : List Frame} {meth : Method} {c : Code} {Q : State → Prop} {D : va_G} {A : Nat → Prop} {ex : Nat → Value} {ad0 : List Nat} {R : Room} {d : Nat} {E : ev_E} (hRf : d + 1 ≤ R.frames ∨ ∀ (mid : Nat) (as : List ev_V) (h : ev_Hp), E mid as h = none) (hR1 : 1 ≤ R.frames) (hRl : 64 * (d + 1) ≤ R.locals) (hRc : k_N12758 ≤ R.cells) (hRs : k_N139836 ≤ R.slots) (hE : ev_Snd l D ev_cl A ex ev_ty (ev_XT A ex) ev_y ev_ws ev_cm ev_sm d E) (hXs : ev_XT A ex s) (hA : ∀ q, s.heap.size ≤ q → A q) (S : CallFix p m c cL_law 7 s args ev_W RL) (hname : meth.name = "law") {b ln : Nat} {xs : Nat → Int32} {bx : List (Int × Int)} (hX0 : va_X b ln xs s s.heap) (hbl : b < s.heap.size) (hbA : ¬ A b) (hj : ex 3000 = .ref b) (hlen : ln < 2147483648) (hbx : ∀ (i : Nat) (v : Int × Int), bx[i]? = some v → i < ln ∧ v.1 ≤ (xs i).toInt ∧ (xs i).toInt ≤ v.2) (pc : Nat) (f : ev_I) (h : ev_mL E ln bx pc = some (.inl f)) : ev_Sim p l e R s m args below meth c Q 7 D ev_cl A s.heap ex ad0 ev_ty pc f :=
  ev_code_at (P := fun pc f => ev_Sim p l e R s m args below meth c Q 7 D ev_cl A s.heap ex ad0 ev_ty pc f) (K := fun _ _ => True) (t := [ev_rL_0 E ln bx, ev_rL_1 E ln bx, ev_rL_2 E ln bx, [], [], [], ev_rL_6 E ln bx, ev_rL_7 E ln bx, ev_rL_8 E ln bx, ev_rL_9 E ln bx, ev_rL_10 E ln bx, ev_rL_11 E ln bx, ev_rL_12 E ln bx, [], [], [], [], ev_rL_17 E ln bx, ev_rL_18 E ln bx, ev_rL_19 E ln bx, ev_rL_20 E ln bx, [], [], [], [], [], [], [], ev_rL_28 E ln bx]) ⟨ev_hL_0 hRf hR1 hRl hRc hRs hE hXs hA S hname hX0 hbl hbA hj hlen hbx, ⟨ev_hL_1 hRf hR1 hRl hRc hRs hE hXs hA S hname hX0 hbl hbA hj hlen hbx, ⟨ev_hL_2 hRf hR1 hRl hRc hRs hE hXs hA S hname hX0 hbl hbA hj hlen hbx, ⟨ev_pz, ⟨ev_pz, ⟨ev_pz, ⟨ev_hL_6 hRf hR1 hRl hRc hRs hE hXs hA S hname hX0 hbl hbA hj hlen hbx, ⟨ev_hL_7 hRf hR1 hRl hRc hRs hE hXs hA S hname hX0 hbl hbA hj hlen hbx, ⟨ev_hL_8 hRf hR1 hRl hRc hRs hE hXs hA S hname hX0 hbl hbA hj hlen hbx, ⟨ev_hL_9 hRf hR1 hRl hRc hRs hE hXs hA S hname hX0 hbl hbA hj hlen hbx, ⟨ev_hL_10 hRf hR1 hRl hRc hRs hE hXs hA S hname hX0 hbl hbA hj hlen hbx, ⟨ev_hL_11 hRf hR1 hRl hRc hRs hE hXs hA S hname hX0 hbl hbA hj hlen hbx, ⟨ev_hL_12 hRf hR1 hRl hRc hRs hE hXs hA S hname hX0 hbl hbA hj hlen hbx, ⟨ev_pz, ⟨ev_pz, ⟨ev_pz, ⟨ev_pz, ⟨ev_hL_17 hRf hR1 hRl hRc hRs hE hXs hA S hname hX0 hbl hbA hj hlen hbx, ⟨ev_hL_18 hRf hR1 hRl hRc hRs hE hXs hA S hname hX0 hbl hbA hj hlen hbx, ⟨ev_hL_19 hRf hR1 hRl hRc hRs hE hXs hA S hname hX0 hbl hbA hj hlen hbx, ⟨ev_hL_20 hRf hR1 hRl hRc hRs hE hXs hA S hname hX0 hbl hbA hj hlen hbx, ⟨ev_pz, ⟨ev_pz, ⟨ev_pz, ⟨ev_pz, ⟨ev_pz, ⟨ev_pz, ⟨ev_pz, ⟨ev_hL_28 hRf hR1 hRl hRc hRs hE hXs hA S hname hX0 hbl hbA hj hlen hbx, trivial⟩⟩⟩⟩⟩⟩⟩⟩⟩⟩⟩⟩⟩⟩⟩⟩⟩⟩⟩⟩⟩⟩⟩⟩⟩⟩⟩⟩⟩ h
theorem ev_t77 {l : Launch} {D : va_G} {A : Nat → Prop} {ex : Nat → Value} : k_TbQ l D ev_cl A ex ev_ty (ev_XT A ex) ev_y ev_b ev_nL ev_ret ev_ws ev_cm ev_sm 0 150 77 ev_m77 := by
  refine Or.inr ⟨by decide +kernel, ⟨ev_W, Or.inr ⟨_, rfl⟩⟩, fun d E hd6 hE p e R s m args below meth c Q ad0 hx hb hml hname hown hts hXs hA hRf0 hR0 hRl hRc hRs => ?_⟩
  have hRf := hRf0.imp_right And.right
  have hR1 : 1 ≤ R.frames := hR0.resolve_left (by decide)
  have S : CallFix p m c cL_put 6 s args ev_W RL := ⟨hx, hb, hml, hown, fun w hw => hts w (List.mem_cons_of_mem _ hw)⟩
  have K := fun (pc : Nat) (x : ev_I ⊕ Nat) => ev_code_at (P := fun pc f => ev_Sim p l e R s m args below meth c Q 6 D ev_cl A s.heap ex ad0 ev_ty pc f) (K := fun pc k => ev_stop k cL_put pc (some .int)) (t := [ev_r77_0 E, ev_r77_1 E]) ⟨ev_h77_0 hRf hR1 hRl hRc hRs hE hXs hA S hname, ⟨ev_h77_1 hRf hR1 hRl hRc hRs hE hXs hA S hname, trivial⟩⟩ (pc := pc) (x := x)
  exact ⟨fun pc f hf => K pc _ hf, fun pc k hk => K pc _ hk⟩
theorem ev_t78 {l : Launch} {D : va_G} {A : Nat → Prop} {ex : Nat → Value} : k_TbQ l D ev_cl A ex ev_ty (ev_XT A ex) ev_y ev_b ev_nL ev_ret ev_ws ev_cm ev_sm 0 150 78 ev_m78 := by
  refine Or.inr ⟨by decide +kernel, ⟨ev_W, Or.inr ⟨_, rfl⟩⟩, fun d E hd6 hE p e R s m args below meth c Q ad0 hx hb hml hname hown hts hXs hA hRf0 hR0 hRl hRc hRs => ?_⟩
  have hRf := hRf0.imp_right And.right
  have hR1 : 1 ≤ R.frames := hR0.resolve_left (by decide)
  have S : CallFix p m c cL_read 4 s args ev_W RL := ⟨hx, hb, hml, hown, fun w hw => hts w (List.mem_cons_of_mem _ hw)⟩
  have K := fun (pc : Nat) (x : ev_I ⊕ Nat) => ev_code_at (P := fun pc f => ev_Sim p l e R s m args below meth c Q 4 D ev_cl A s.heap ex ad0 ev_ty pc f) (K := fun pc k => ev_stop k cL_read pc (some .int)) (t := [ev_r78_0 E, ev_r78_1 E]) ⟨ev_h78_0 hRf hR1 hRl hRc hRs hE hXs hA S hname, ⟨ev_h78_1 hRf hR1 hRl hRc hRs hE hXs hA S hname, trivial⟩⟩ (pc := pc) (x := x)
  exact ⟨fun pc f hf => K pc _ hf, fun pc k hk => K pc _ hk⟩
theorem ev_t79 {l : Launch} {D : va_G} {A : Nat → Prop} {ex : Nat → Value} (hl0 : l.stackTraces = false) : k_TbQ l D ev_cl A ex ev_ty (ev_XT A ex) ev_y ev_b ev_nL ev_ret ev_ws ev_cm ev_sm 6 150 79 ev_m79 := by
  refine Or.inr ⟨by decide +kernel, ⟨ev_W, Or.inl rfl⟩, fun d E hd6 hE p e R s m args below meth c Q ad0 hx hb hml hname hown hts hXs hA hRf0 hR0 hRl hRc hRs => ?_⟩
  have hRf := hRf0.imp_right And.right
  have hR1 : 1 ≤ R.frames := hR0.resolve_left (by decide)
  have hRf9 : d + 1 ≤ R.frames := hRf0.resolve_right (fun h => absurd h.1 (by decide))
  have S : CallFix p m c cX28_init 1 s args ev_W RX28 := ⟨hx, hb, hml, hown, fun w hw => hts w (List.mem_cons_of_mem _ hw)⟩
  have K := fun (pc : Nat) (x : ev_I ⊕ Nat) => ev_code_at (P := fun pc f => ev_Sim p l e R s m args below meth c Q 1 D ev_cl A s.heap ex ad0 ev_ty pc f) (K := fun pc k => ev_stop k cX28_init pc none) (t := [ev_r79_0 E, ev_r79_1 E, ev_r79_2 E, ev_r79_3 E, ev_r79_4 E, ev_r79_5 E, ev_r79_6 E, ev_r79_7 E, ev_r79_8 E, ev_r79_9 E, ev_r79_10 E, ev_r79_11 E, ev_r79_12 E, ev_r79_13 E, ev_r79_14 E, ev_r79_15 E, ev_r79_16 E, ev_r79_17 E, ev_r79_18 E, ev_r79_19 E, ev_r79_20 E, ev_r79_21 E, ev_r79_22 E, ev_r79_23 E, ev_r79_24 E, ev_r79_25 E, ev_r79_26 E, ev_r79_27 E, ev_r79_28 E, ev_r79_29 E, ev_r79_30 E, ev_r79_31 E, ev_r79_32 E, ev_r79_33 E, ev_r79_34 E, ev_r79_35 E, ev_r79_36 E]) ⟨ev_h79_0 hl0 hd6 hRf9 hRf hR1 hRl hRc hRs hE hXs hA S hname, ⟨ev_h79_1 hl0 hd6 hRf9 hRf hR1 hRl hRc hRs hE hXs hA S hname, ⟨ev_h79_2 hl0 hd6 hRf9 hRf hR1 hRl hRc hRs hE hXs hA S hname, ⟨ev_h79_3 hl0 hd6 hRf9 hRf hR1 hRl hRc hRs hE hXs hA S hname, ⟨ev_h79_4 hl0 hd6 hRf9 hRf hR1 hRl hRc hRs hE hXs hA S hname, ⟨ev_h79_5 hl0 hd6 hRf9 hRf hR1 hRl hRc hRs hE hXs hA S hname, ⟨ev_h79_6 hl0 hd6 hRf9 hRf hR1 hRl hRc hRs hE hXs hA S hname, ⟨ev_h79_7 hl0 hd6 hRf9 hRf hR1 hRl hRc hRs hE hXs hA S hname, ⟨ev_h79_8 hl0 hd6 hRf9 hRf hR1 hRl hRc hRs hE hXs hA S hname, ⟨ev_h79_9 hl0 hd6 hRf9 hRf hR1 hRl hRc hRs hE hXs hA S hname, ⟨ev_h79_10 hl0 hd6 hRf9 hRf hR1 hRl hRc hRs hE hXs hA S hname, ⟨ev_h79_11 hl0 hd6 hRf9 hRf hR1 hRl hRc hRs hE hXs hA S hname, ⟨ev_h79_12 hl0 hd6 hRf9 hRf hR1 hRl hRc hRs hE hXs hA S hname, ⟨ev_h79_13 hl0 hd6 hRf9 hRf hR1 hRl hRc hRs hE hXs hA S hname, ⟨ev_h79_14 hl0 hd6 hRf9 hRf hR1 hRl hRc hRs hE hXs hA S hname, ⟨ev_h79_15 hl0 hd6 hRf9 hRf hR1 hRl hRc hRs hE hXs hA S hname, ⟨ev_h79_16 hl0 hd6 hRf9 hRf hR1 hRl hRc hRs hE hXs hA S hname, ⟨ev_h79_17 hl0 hd6 hRf9 hRf hR1 hRl hRc hRs hE hXs hA S hname, ⟨ev_h79_18 hl0 hd6 hRf9 hRf hR1 hRl hRc hRs hE hXs hA S hname, ⟨ev_h79_19 hl0 hd6 hRf9 hRf hR1 hRl hRc hRs hE hXs hA S hname, ⟨ev_h79_20 hl0 hd6 hRf9 hRf hR1 hRl hRc hRs hE hXs hA S hname, ⟨ev_h79_21 hl0 hd6 hRf9 hRf hR1 hRl hRc hRs hE hXs hA S hname, ⟨ev_h79_22 hl0 hd6 hRf9 hRf hR1 hRl hRc hRs hE hXs hA S hname, ⟨ev_h79_23 hl0 hd6 hRf9 hRf hR1 hRl hRc hRs hE hXs hA S hname, ⟨ev_h79_24 hl0 hd6 hRf9 hRf hR1 hRl hRc hRs hE hXs hA S hname, ⟨ev_h79_25 hl0 hd6 hRf9 hRf hR1 hRl hRc hRs hE hXs hA S hname, ⟨ev_h79_26 hl0 hd6 hRf9 hRf hR1 hRl hRc hRs hE hXs hA S hname, ⟨ev_h79_27 hl0 hd6 hRf9 hRf hR1 hRl hRc hRs hE hXs hA S hname, ⟨ev_h79_28 hl0 hd6 hRf9 hRf hR1 hRl hRc hRs hE hXs hA S hname, ⟨ev_h79_29 hl0 hd6 hRf9 hRf hR1 hRl hRc hRs hE hXs hA S hname, ⟨ev_h79_30 hl0 hd6 hRf9 hRf hR1 hRl hRc hRs hE hXs hA S hname, ⟨ev_h79_31 hl0 hd6 hRf9 hRf hR1 hRl hRc hRs hE hXs hA S hname, ⟨ev_h79_32 hl0 hd6 hRf9 hRf hR1 hRl hRc hRs hE hXs hA S hname, ⟨ev_h79_33 hl0 hd6 hRf9 hRf hR1 hRl hRc hRs hE hXs hA S hname, ⟨ev_h79_34 hl0 hd6 hRf9 hRf hR1 hRl hRc hRs hE hXs hA S hname, ⟨ev_h79_35 hl0 hd6 hRf9 hRf hR1 hRl hRc hRs hE hXs hA S hname, ⟨ev_h79_36 hl0 hd6 hRf9 hRf hR1 hRl hRc hRs hE hXs hA S hname, trivial⟩⟩⟩⟩⟩⟩⟩⟩⟩⟩⟩⟩⟩⟩⟩⟩⟩⟩⟩⟩⟩⟩⟩⟩⟩⟩⟩⟩⟩⟩⟩⟩⟩⟩⟩⟩⟩ (pc := pc) (x := x)
  exact ⟨fun pc f hf => K pc _ hf, fun pc k hk => K pc _ hk⟩
theorem ev_t80 {l : Launch} {D : va_G} {A : Nat → Prop} {ex : Nat → Value} : k_TbQ l D ev_cl A ex ev_ty (ev_XT A ex) ev_y ev_b ev_nL ev_ret ev_ws ev_cm ev_sm 0 150 80 ev_m80 := by
  refine Or.inr ⟨by decide +kernel, ⟨ev_W, Or.inl rfl⟩, fun d E hd6 hE p e R s m args below meth c Q ad0 hx hb hml hname hown hts hXs hA hRf0 hR0 hRl hRc hRs => ?_⟩
  have hRf := hRf0.imp_right And.right
  have hR1 : 1 ≤ R.frames := hR0.resolve_left (by decide)
  have S : CallFix p m c cX28_begin0 1 s args ev_W RX28 := ⟨hx, hb, hml, hown, fun w hw => hts w (List.mem_cons_of_mem _ hw)⟩
  have K := fun (pc : Nat) (x : ev_I ⊕ Nat) => ev_code_at (P := fun pc f => ev_Sim p l e R s m args below meth c Q 1 D ev_cl A s.heap ex ad0 ev_ty pc f) (K := fun pc k => ev_stop k cX28_begin0 pc none) (t := [ev_r80_0 E, ev_r80_1 E, ev_r80_2 E, ev_r80_3 E, ev_r80_4 E, ev_r80_5 E, ev_r80_6 E, ev_r80_7 E, ev_r80_8 E, ev_r80_9 E]) ⟨ev_h80_0 hRf hR1 hRl hRc hRs hE hXs hA S hname, ⟨ev_h80_1 hRf hR1 hRl hRc hRs hE hXs hA S hname, ⟨ev_h80_2 hRf hR1 hRl hRc hRs hE hXs hA S hname, ⟨ev_h80_3 hRf hR1 hRl hRc hRs hE hXs hA S hname, ⟨ev_h80_4 hRf hR1 hRl hRc hRs hE hXs hA S hname, ⟨ev_h80_5 hRf hR1 hRl hRc hRs hE hXs hA S hname, ⟨ev_h80_6 hRf hR1 hRl hRc hRs hE hXs hA S hname, ⟨ev_h80_7 hRf hR1 hRl hRc hRs hE hXs hA S hname, ⟨ev_h80_8 hRf hR1 hRl hRc hRs hE hXs hA S hname, ⟨ev_h80_9 hRf hR1 hRl hRc hRs hE hXs hA S hname, trivial⟩⟩⟩⟩⟩⟩⟩⟩⟩⟩ (pc := pc) (x := x)
  exact ⟨fun pc f hf => K pc _ hf, fun pc k hk => K pc _ hk⟩
theorem ev_t81 {l : Launch} {D : va_G} {A : Nat → Prop} {ex : Nat → Value} : k_TbQ l D ev_cl A ex ev_ty (ev_XT A ex) ev_y ev_b ev_nL ev_ret ev_ws ev_cm ev_sm 0 150 81 ev_m81 := by
  refine Or.inr ⟨by decide +kernel, ⟨ev_W, Or.inl rfl⟩, fun d E hd6 hE p e R s m args below meth c Q ad0 hx hb hml hname hown hts hXs hA hRf0 hR0 hRl hRc hRs => ?_⟩
  have hRf := hRf0.imp_right And.right
  have hR1 : 1 ≤ R.frames := hR0.resolve_left (by decide)
  have S : CallFix p m c cX28_change 4 s args ev_W RX28 := ⟨hx, hb, hml, hown, fun w hw => hts w (List.mem_cons_of_mem _ hw)⟩
  have K := fun (pc : Nat) (x : ev_I ⊕ Nat) => ev_code_at (P := fun pc f => ev_Sim p l e R s m args below meth c Q 4 D ev_cl A s.heap ex ad0 ev_ty pc f) (K := fun pc k => ev_stop k cX28_change pc none) (t := [ev_r81_0 E, ev_r81_1 E]) ⟨ev_h81_0 hRf hR1 hRl hRc hRs hE hXs hA S hname, ⟨ev_h81_1 hRf hR1 hRl hRc hRs hE hXs hA S hname, trivial⟩⟩ (pc := pc) (x := x)
  exact ⟨fun pc f hf => K pc _ hf, fun pc k hk => K pc _ hk⟩
theorem ev_t82 {l : Launch} {D : va_G} {A : Nat → Prop} {ex : Nat → Value} : k_TbQ l D ev_cl A ex ev_ty (ev_XT A ex) ev_y ev_b ev_nL ev_ret ev_ws ev_cm ev_sm 0 150 82 ev_m82 := by
  refine Or.inr ⟨by decide +kernel, ⟨ev_W, Or.inl rfl⟩, fun d E hd6 hE p e R s m args below meth c Q ad0 hx hb hml hname hown hts hXs hA hRf0 hR0 hRl hRc hRs => ?_⟩
  have hRf := hRf0.imp_right And.right
  have hR1 : 1 ≤ R.frames := hR0.resolve_left (by decide)
  have S : CallFix p m c cX28_fails 3 s args ev_W RX28 := ⟨hx, hb, hml, hown, fun w hw => hts w (List.mem_cons_of_mem _ hw)⟩
  have K := fun (pc : Nat) (x : ev_I ⊕ Nat) => ev_code_at (P := fun pc f => ev_Sim p l e R s m args below meth c Q 3 D ev_cl A s.heap ex ad0 ev_ty pc f) (K := fun pc k => ev_stop k cX28_fails pc (some .boolean)) (t := [ev_r82_0 E, ev_r82_1 E, ev_r82_2 E]) ⟨ev_h82_0 hRf hR1 hRl hRc hRs hE hXs hA S hname, ⟨ev_h82_1 hRf hR1 hRl hRc hRs hE hXs hA S hname, ⟨ev_h82_2 hRf hR1 hRl hRc hRs hE hXs hA S hname, trivial⟩⟩⟩ (pc := pc) (x := x)
  exact ⟨fun pc f hf => K pc _ hf, fun pc k hk => K pc _ hk⟩
theorem ev_t83 {l : Launch} {D : va_G} {A : Nat → Prop} {ex : Nat → Value} : k_TbQ l D ev_cl A ex ev_ty (ev_XT A ex) ev_y ev_b ev_nL ev_ret ev_ws ev_cm ev_sm 0 150 83 ev_m83 := by
  refine Or.inr ⟨by decide +kernel, ⟨ev_W, Or.inl rfl⟩, fun d E hd6 hE p e R s m args below meth c Q ad0 hx hb hml hname hown hts hXs hA hRf0 hR0 hRl hRc hRs => ?_⟩
  have hRf := hRf0.imp_right And.right
  have hR1 : 1 ≤ R.frames := hR0.resolve_left (by decide)
  have S : CallFix p m c cX28_feed 6 s args ev_W RX28 := ⟨hx, hb, hml, hown, fun w hw => hts w (List.mem_cons_of_mem _ hw)⟩
  have K := fun (pc : Nat) (x : ev_I ⊕ Nat) => ev_code_at (P := fun pc f => ev_Sim p l e R s m args below meth c Q 6 D ev_cl A s.heap ex ad0 ev_ty pc f) (K := fun pc k => ev_stop k cX28_feed pc (some .int)) (t := [ev_r83_0 E, ev_r83_1 E, ev_r83_2 E, ev_r83_3 E]) ⟨ev_h83_0 hRf hR1 hRl hRc hRs hE hXs hA S hname, ⟨ev_h83_1 hRf hR1 hRl hRc hRs hE hXs hA S hname, ⟨ev_h83_2 hRf hR1 hRl hRc hRs hE hXs hA S hname, ⟨ev_h83_3 hRf hR1 hRl hRc hRs hE hXs hA S hname, trivial⟩⟩⟩⟩ (pc := pc) (x := x)
  exact ⟨fun pc f hf => K pc _ hf, fun pc k hk => K pc _ hk⟩
theorem ev_t84 {l : Launch} {D : va_G} {A : Nat → Prop} {ex : Nat → Value} : k_TbQ l D ev_cl A ex ev_ty (ev_XT A ex) ev_y ev_b ev_nL ev_ret ev_ws ev_cm ev_sm 0 150 84 ev_m84 := by
  refine Or.inr ⟨by decide +kernel, ⟨ev_W, Or.inl rfl⟩, fun d E hd6 hE p e R s m args below meth c Q ad0 hx hb hml hname hown hts hXs hA hRf0 hR0 hRl hRc hRs => ?_⟩
  have hRf := hRf0.imp_right And.right
  have hR1 : 1 ≤ R.frames := hR0.resolve_left (by decide)
  have S : CallFix p m c cX28_feed 6 s args ev_W RX28 := ⟨hx, hb, hml, hown, fun w hw => hts w (List.mem_cons_of_mem _ hw)⟩
  have K := fun (pc : Nat) (x : ev_I ⊕ Nat) => ev_code_at (P := fun pc f => ev_Sim p l e R s m args below meth c Q 6 D ev_cl A s.heap ex ad0 ev_ty pc f) (K := fun pc k => ev_stop k cX28_feed pc (some .int)) (t := [ev_r84_0 E, ev_r84_1 E, ev_r84_2 E, ev_r84_3 E]) ⟨ev_h84_0 hRf hR1 hRl hRc hRs hE hXs hA S hname, ⟨ev_h84_1 hRf hR1 hRl hRc hRs hE hXs hA S hname, ⟨ev_h84_2 hRf hR1 hRl hRc hRs hE hXs hA S hname, ⟨ev_h84_3 hRf hR1 hRl hRc hRs hE hXs hA S hname, trivial⟩⟩⟩⟩ (pc := pc) (x := x)
  exact ⟨fun pc f hf => K pc _ hf, fun pc k hk => K pc _ hk⟩
theorem ev_t85 {l : Launch} {D : va_G} {A : Nat → Prop} {ex : Nat → Value} : k_TbQ l D ev_cl A ex ev_ty (ev_XT A ex) ev_y ev_b ev_nL ev_ret ev_ws ev_cm ev_sm 0 150 85 ev_m85 := by
  refine Or.inr ⟨by decide +kernel, ⟨ev_W, Or.inl rfl⟩, fun d E hd6 hE p e R s m args below meth c Q ad0 hx hb hml hname hown hts hXs hA hRf0 hR0 hRl hRc hRs => ?_⟩
  have hRf := hRf0.imp_right And.right
  have hR1 : 1 ≤ R.frames := hR0.resolve_left (by decide)
  have S : CallFix p m c cX28_feed 6 s args ev_W RX28 := ⟨hx, hb, hml, hown, fun w hw => hts w (List.mem_cons_of_mem _ hw)⟩
  have K := fun (pc : Nat) (x : ev_I ⊕ Nat) => ev_code_at (P := fun pc f => ev_Sim p l e R s m args below meth c Q 6 D ev_cl A s.heap ex ad0 ev_ty pc f) (K := fun pc k => ev_stop k cX28_feed pc (some .int)) (t := [ev_r85_0 E, ev_r85_1 E, ev_r85_2 E, ev_r85_3 E]) ⟨ev_h85_0 hRf hR1 hRl hRc hRs hE hXs hA S hname, ⟨ev_h85_1 hRf hR1 hRl hRc hRs hE hXs hA S hname, ⟨ev_h85_2 hRf hR1 hRl hRc hRs hE hXs hA S hname, ⟨ev_h85_3 hRf hR1 hRl hRc hRs hE hXs hA S hname, trivial⟩⟩⟩⟩ (pc := pc) (x := x)
  exact ⟨fun pc f hf => K pc _ hf, fun pc k hk => K pc _ hk⟩
theorem ev_t86 {l : Launch} {D : va_G} {A : Nat → Prop} {ex : Nat → Value} : k_TbQ l D ev_cl A ex ev_ty (ev_XT A ex) ev_y ev_b ev_nL ev_ret ev_ws ev_cm ev_sm 0 150 86 ev_m86 := by
  refine Or.inr ⟨by decide +kernel, ⟨ev_W, Or.inl rfl⟩, fun d E hd6 hE p e R s m args below meth c Q ad0 hx hb hml hname hown hts hXs hA hRf0 hR0 hRl hRc hRs => ?_⟩
  have hRf := hRf0.imp_right And.right
  have hR1 : 1 ≤ R.frames := hR0.resolve_left (by decide)
  have S : CallFix p m c cX28_feed 6 s args ev_W RX28 := ⟨hx, hb, hml, hown, fun w hw => hts w (List.mem_cons_of_mem _ hw)⟩
  have K := fun (pc : Nat) (x : ev_I ⊕ Nat) => ev_code_at (P := fun pc f => ev_Sim p l e R s m args below meth c Q 6 D ev_cl A s.heap ex ad0 ev_ty pc f) (K := fun pc k => ev_stop k cX28_feed pc (some .int)) (t := [ev_r86_0 E, ev_r86_1 E, ev_r86_2 E, ev_r86_3 E]) ⟨ev_h86_0 hRf hR1 hRl hRc hRs hE hXs hA S hname, ⟨ev_h86_1 hRf hR1 hRl hRc hRs hE hXs hA S hname, ⟨ev_h86_2 hRf hR1 hRl hRc hRs hE hXs hA S hname, ⟨ev_h86_3 hRf hR1 hRl hRc hRs hE hXs hA S hname, trivial⟩⟩⟩⟩ (pc := pc) (x := x)
  exact ⟨fun pc f hf => K pc _ hf, fun pc k hk => K pc _ hk⟩
theorem ev_t87 {l : Launch} {D : va_G} {A : Nat → Prop} {ex : Nat → Value} : k_TbQ l D ev_cl A ex ev_ty (ev_XT A ex) ev_y ev_b ev_nL ev_ret ev_ws ev_cm ev_sm 0 150 87 ev_m87 := by
  refine Or.inr ⟨by decide +kernel, ⟨ev_W, Or.inl rfl⟩, fun d E hd6 hE p e R s m args below meth c Q ad0 hx hb hml hname hown hts hXs hA hRf0 hR0 hRl hRc hRs => ?_⟩
  have hRf := hRf0.imp_right And.right
  have hR1 : 1 ≤ R.frames := hR0.resolve_left (by decide)
  have S : CallFix p m c cX28_five 3 s args ev_W RX28 := ⟨hx, hb, hml, hown, fun w hw => hts w (List.mem_cons_of_mem _ hw)⟩
  have K := fun (pc : Nat) (x : ev_I ⊕ Nat) => ev_code_at (P := fun pc f => ev_Sim p l e R s m args below meth c Q 3 D ev_cl A s.heap ex ad0 ev_ty pc f) (K := fun pc k => ev_stop k cX28_five pc none) (t := [ev_r87_0 E, ev_r87_1 E]) ⟨ev_h87_0 hRf hR1 hRl hRc hRs hE hXs hA S hname, ⟨ev_h87_1 hRf hR1 hRl hRc hRs hE hXs hA S hname, trivial⟩⟩ (pc := pc) (x := x)
  exact ⟨fun pc f hf => K pc _ hf, fun pc k hk => K pc _ hk⟩
theorem ev_t88 {l : Launch} {D : va_G} {A : Nat → Prop} {ex : Nat → Value} : k_TbQ l D ev_cl A ex ev_ty (ev_XT A ex) ev_y ev_b ev_nL ev_ret ev_ws ev_cm ev_sm 0 150 88 ev_m88 := by
  refine Or.inr ⟨by decide +kernel, ⟨ev_W, Or.inl rfl⟩, fun d E hd6 hE p e R s m args below meth c Q ad0 hx hb hml hname hown hts hXs hA hRf0 hR0 hRl hRc hRs => ?_⟩
  have hRf := hRf0.imp_right And.right
  have hR1 : 1 ≤ R.frames := hR0.resolve_left (by decide)
  have S : CallFix p m c cX28_five 3 s args ev_W RX28 := ⟨hx, hb, hml, hown, fun w hw => hts w (List.mem_cons_of_mem _ hw)⟩
  have K := fun (pc : Nat) (x : ev_I ⊕ Nat) => ev_code_at (P := fun pc f => ev_Sim p l e R s m args below meth c Q 3 D ev_cl A s.heap ex ad0 ev_ty pc f) (K := fun pc k => ev_stop k cX28_five pc none) (t := [ev_r88_0 E, ev_r88_1 E]) ⟨ev_h88_0 hRf hR1 hRl hRc hRs hE hXs hA S hname, ⟨ev_h88_1 hRf hR1 hRl hRc hRs hE hXs hA S hname, trivial⟩⟩ (pc := pc) (x := x)
  exact ⟨fun pc f hf => K pc _ hf, fun pc k hk => K pc _ hk⟩
theorem ev_t89 {l : Launch} {D : va_G} {A : Nat → Prop} {ex : Nat → Value} : k_TbQ l D ev_cl A ex ev_ty (ev_XT A ex) ev_y ev_b ev_nL ev_ret ev_ws ev_cm ev_sm 0 150 89 ev_m89 := by
  refine Or.inr ⟨by decide +kernel, ⟨ev_W, Or.inl rfl⟩, fun d E hd6 hE p e R s m args below meth c Q ad0 hx hb hml hname hown hts hXs hA hRf0 hR0 hRl hRc hRs => ?_⟩
  have hRf := hRf0.imp_right And.right
  have hR1 : 1 ≤ R.frames := hR0.resolve_left (by decide)
  have S : CallFix p m c cX28_five 3 s args ev_W RX28 := ⟨hx, hb, hml, hown, fun w hw => hts w (List.mem_cons_of_mem _ hw)⟩
  have K := fun (pc : Nat) (x : ev_I ⊕ Nat) => ev_code_at (P := fun pc f => ev_Sim p l e R s m args below meth c Q 3 D ev_cl A s.heap ex ad0 ev_ty pc f) (K := fun pc k => ev_stop k cX28_five pc none) (t := [ev_r89_0 E, ev_r89_1 E]) ⟨ev_h89_0 hRf hR1 hRl hRc hRs hE hXs hA S hname, ⟨ev_h89_1 hRf hR1 hRl hRc hRs hE hXs hA S hname, trivial⟩⟩ (pc := pc) (x := x)
  exact ⟨fun pc f hf => K pc _ hf, fun pc k hk => K pc _ hk⟩
theorem ev_t90 {l : Launch} {D : va_G} {A : Nat → Prop} {ex : Nat → Value} : k_TbQ l D ev_cl A ex ev_ty (ev_XT A ex) ev_y ev_b ev_nL ev_ret ev_ws ev_cm ev_sm 0 150 90 ev_m90 := by
  refine Or.inr ⟨by decide +kernel, ⟨ev_W, Or.inl rfl⟩, fun d E hd6 hE p e R s m args below meth c Q ad0 hx hb hml hname hown hts hXs hA hRf0 hR0 hRl hRc hRs => ?_⟩
  have hRf := hRf0.imp_right And.right
  have hR1 : 1 ≤ R.frames := hR0.resolve_left (by decide)
  have S : CallFix p m c cX28_five 3 s args ev_W RX28 := ⟨hx, hb, hml, hown, fun w hw => hts w (List.mem_cons_of_mem _ hw)⟩
  have K := fun (pc : Nat) (x : ev_I ⊕ Nat) => ev_code_at (P := fun pc f => ev_Sim p l e R s m args below meth c Q 3 D ev_cl A s.heap ex ad0 ev_ty pc f) (K := fun pc k => ev_stop k cX28_five pc none) (t := [ev_r90_0 E, ev_r90_1 E]) ⟨ev_h90_0 hRf hR1 hRl hRc hRs hE hXs hA S hname, ⟨ev_h90_1 hRf hR1 hRl hRc hRs hE hXs hA S hname, trivial⟩⟩ (pc := pc) (x := x)
  exact ⟨fun pc f hf => K pc _ hf, fun pc k hk => K pc _ hk⟩
theorem ev_t91 {l : Launch} {D : va_G} {A : Nat → Prop} {ex : Nat → Value} : k_TbQ l D ev_cl A ex ev_ty (ev_XT A ex) ev_y ev_b ev_nL ev_ret ev_ws ev_cm ev_sm 0 150 91 ev_m91 := by
  refine Or.inr ⟨by decide +kernel, ⟨ev_W, Or.inl rfl⟩, fun d E hd6 hE p e R s m args below meth c Q ad0 hx hb hml hname hown hts hXs hA hRf0 hR0 hRl hRc hRs => ?_⟩
  have hRf := hRf0.imp_right And.right
  have hR1 : 1 ≤ R.frames := hR0.resolve_left (by decide)
  have S : CallFix p m c cX28_has_ 5 s args ev_W RX28 := ⟨hx, hb, hml, hown, fun w hw => hts w (List.mem_cons_of_mem _ hw)⟩
  have K := fun (pc : Nat) (x : ev_I ⊕ Nat) => ev_code_at (P := fun pc f => ev_Sim p l e R s m args below meth c Q 5 D ev_cl A s.heap ex ad0 ev_ty pc f) (K := fun pc k => ev_stop k cX28_has_ pc (some .boolean)) (t := [ev_r91_0 E, ev_r91_1 E, ev_r91_2 E, ev_r91_3 E]) ⟨ev_h91_0 hRf hR1 hRl hRc hRs hE hXs hA S hname, ⟨ev_h91_1 hRf hR1 hRl hRc hRs hE hXs hA S hname, ⟨ev_h91_2 hRf hR1 hRl hRc hRs hE hXs hA S hname, ⟨ev_h91_3 hRf hR1 hRl hRc hRs hE hXs hA S hname, trivial⟩⟩⟩⟩ (pc := pc) (x := x)
  exact ⟨fun pc f hf => K pc _ hf, fun pc k hk => K pc _ hk⟩
theorem ev_t92 {l : Launch} {D : va_G} {A : Nat → Prop} {ex : Nat → Value} : k_TbQ l D ev_cl A ex ev_ty (ev_XT A ex) ev_y ev_b ev_nL ev_ret ev_ws ev_cm ev_sm 0 150 92 ev_m92 := by
  refine Or.inr ⟨by decide +kernel, ⟨ev_W, Or.inl rfl⟩, fun d E hd6 hE p e R s m args below meth c Q ad0 hx hb hml hname hown hts hXs hA hRf0 hR0 hRl hRc hRs => ?_⟩
  have hRf := hRf0.imp_right And.right
  have hR1 : 1 ≤ R.frames := hR0.resolve_left (by decide)
  have S : CallFix p m c cX28_is 3 s args ev_W RX28 := ⟨hx, hb, hml, hown, fun w hw => hts w (List.mem_cons_of_mem _ hw)⟩
  have K := fun (pc : Nat) (x : ev_I ⊕ Nat) => ev_code_at (P := fun pc f => ev_Sim p l e R s m args below meth c Q 3 D ev_cl A s.heap ex ad0 ev_ty pc f) (K := fun pc k => ev_stop k cX28_is pc (some .boolean)) (t := [ev_r92_0 E, ev_r92_1 E, ev_r92_2 E, ev_r92_3 E]) ⟨ev_h92_0 hRf hR1 hRl hRc hRs hE hXs hA S hname, ⟨ev_h92_1 hRf hR1 hRl hRc hRs hE hXs hA S hname, ⟨ev_h92_2 hRf hR1 hRl hRc hRs hE hXs hA S hname, ⟨ev_h92_3 hRf hR1 hRl hRc hRs hE hXs hA S hname, trivial⟩⟩⟩⟩ (pc := pc) (x := x)
  exact ⟨fun pc f hf => K pc _ hf, fun pc k hk => K pc _ hk⟩
theorem ev_t93 {l : Launch} {D : va_G} {A : Nat → Prop} {ex : Nat → Value} : k_TbQ l D ev_cl A ex ev_ty (ev_XT A ex) ev_y ev_b ev_nL ev_ret ev_ws ev_cm ev_sm 0 150 93 ev_m93 := by
  refine Or.inr ⟨by decide +kernel, ⟨ev_W, Or.inl rfl⟩, fun d E hd6 hE p e R s m args below meth c Q ad0 hx hb hml hname hown hts hXs hA hRf0 hR0 hRl hRc hRs => ?_⟩
  have hRf := hRf0.imp_right And.right
  have hR1 : 1 ≤ R.frames := hR0.resolve_left (by decide)
  have S : CallFix p m c cX28_isAliasText 3 s args ev_W RX28 := ⟨hx, hb, hml, hown, fun w hw => hts w (List.mem_cons_of_mem _ hw)⟩
  have K := fun (pc : Nat) (x : ev_I ⊕ Nat) => ev_code_at (P := fun pc f => ev_Sim p l e R s m args below meth c Q 3 D ev_cl A s.heap ex ad0 ev_ty pc f) (K := fun pc k => ev_stop k cX28_isAliasText pc (some .boolean)) (t := [ev_r93_0 E, ev_r93_1 E, ev_r93_2 E]) ⟨ev_h93_0 hRf hR1 hRl hRc hRs hE hXs hA S hname, ⟨ev_h93_1 hRf hR1 hRl hRc hRs hE hXs hA S hname, ⟨ev_h93_2 hRf hR1 hRl hRc hRs hE hXs hA S hname, trivial⟩⟩⟩ (pc := pc) (x := x)
  exact ⟨fun pc f hf => K pc _ hf, fun pc k hk => K pc _ hk⟩
theorem ev_t94 {l : Launch} {D : va_G} {A : Nat → Prop} {ex : Nat → Value} : k_TbQ l D ev_cl A ex ev_ty (ev_XT A ex) ev_y ev_b ev_nL ev_ret ev_ws ev_cm ev_sm 0 150 94 ev_m94 := by
  refine Or.inr ⟨by decide +kernel, ⟨ev_W, Or.inl rfl⟩, fun d E hd6 hE p e R s m args below meth c Q ad0 hx hb hml hname hown hts hXs hA hRf0 hR0 hRl hRc hRs => ?_⟩
  have hRf := hRf0.imp_right And.right
  have hR1 : 1 ≤ R.frames := hR0.resolve_left (by decide)
  have S : CallFix p m c cX28_isDigit 1 s args ev_W RX28 := ⟨hx, hb, hml, hown, fun w hw => hts w (List.mem_cons_of_mem _ hw)⟩
  have K := fun (pc : Nat) (x : ev_I ⊕ Nat) => ev_code_at (P := fun pc f => ev_Sim p l e R s m args below meth c Q 1 D ev_cl A s.heap ex ad0 ev_ty pc f) (K := fun pc k => ev_stop k cX28_isDigit pc (some .boolean)) (t := [ev_r94_0 E, ev_r94_1 E]) ⟨ev_h94_0 hRf hR1 hRl hRc hRs hE hXs hA S hname, ⟨ev_h94_1 hRf hR1 hRl hRc hRs hE hXs hA S hname, trivial⟩⟩ (pc := pc) (x := x)
  exact ⟨fun pc f hf => K pc _ hf, fun pc k hk => K pc _ hk⟩
theorem ev_t95 {l : Launch} {D : va_G} {A : Nat → Prop} {ex : Nat → Value} : k_TbQ l D ev_cl A ex ev_ty (ev_XT A ex) ev_y ev_b ev_nL ev_ret ev_ws ev_cm ev_sm 0 150 95 ev_m95 := by
  refine Or.inr ⟨by decide +kernel, ⟨ev_W, Or.inl rfl⟩, fun d E hd6 hE p e R s m args below meth c Q ad0 hx hb hml hname hown hts hXs hA hRf0 hR0 hRl hRc hRs => ?_⟩
  have hRf := hRf0.imp_right And.right
  have hR1 : 1 ≤ R.frames := hR0.resolve_left (by decide)
  have S : CallFix p m c cX28_isLetter 1 s args ev_W RX28 := ⟨hx, hb, hml, hown, fun w hw => hts w (List.mem_cons_of_mem _ hw)⟩
  have K := fun (pc : Nat) (x : ev_I ⊕ Nat) => ev_code_at (P := fun pc f => ev_Sim p l e R s m args below meth c Q 1 D ev_cl A s.heap ex ad0 ev_ty pc f) (K := fun pc k => ev_stop k cX28_isLetter pc (some .boolean)) (t := [ev_r95_0 E, ev_r95_1 E, ev_r95_2 E]) ⟨ev_h95_0 hRf hR1 hRl hRc hRs hE hXs hA S hname, ⟨ev_h95_1 hRf hR1 hRl hRc hRs hE hXs hA S hname, ⟨ev_h95_2 hRf hR1 hRl hRc hRs hE hXs hA S hname, trivial⟩⟩⟩ (pc := pc) (x := x)
  exact ⟨fun pc f hf => K pc _ hf, fun pc k hk => K pc _ hk⟩
theorem ev_t96 {l : Launch} {D : va_G} {A : Nat → Prop} {ex : Nat → Value} : k_TbQ l D ev_cl A ex ev_ty (ev_XT A ex) ev_y ev_b ev_nL ev_ret ev_ws ev_cm ev_sm 0 150 96 ev_m96 := by
  refine Or.inr ⟨by decide +kernel, ⟨ev_W, Or.inl rfl⟩, fun d E hd6 hE p e R s m args below meth c Q ad0 hx hb hml hname hown hts hXs hA hRf0 hR0 hRl hRc hRs => ?_⟩
  have hRf := hRf0.imp_right And.right
  have hR1 : 1 ≤ R.frames := hR0.resolve_left (by decide)
  have S : CallFix p m c cX28_isName 1 s args ev_W RX28 := ⟨hx, hb, hml, hown, fun w hw => hts w (List.mem_cons_of_mem _ hw)⟩
  have K := fun (pc : Nat) (x : ev_I ⊕ Nat) => ev_code_at (P := fun pc f => ev_Sim p l e R s m args below meth c Q 1 D ev_cl A s.heap ex ad0 ev_ty pc f) (K := fun pc k => ev_stop k cX28_isName pc (some .boolean)) (t := [ev_r96_0 E, ev_r96_1 E]) ⟨ev_h96_0 hRf hR1 hRl hRc hRs hE hXs hA S hname, ⟨ev_h96_1 hRf hR1 hRl hRc hRs hE hXs hA S hname, trivial⟩⟩ (pc := pc) (x := x)
  exact ⟨fun pc f hf => K pc _ hf, fun pc k hk => K pc _ hk⟩
theorem ev_t97 {l : Launch} {D : va_G} {A : Nat → Prop} {ex : Nat → Value} : k_TbQ l D ev_cl A ex ev_ty (ev_XT A ex) ev_y ev_b ev_nL ev_ret ev_ws ev_cm ev_sm 0 150 97 ev_m97 := by
  refine Or.inr ⟨by decide +kernel, ⟨ev_W, Or.inl rfl⟩, fun d E hd6 hE p e R s m args below meth c Q ad0 hx hb hml hname hown hts hXs hA hRf0 hR0 hRl hRc hRs => ?_⟩
  have hRf := hRf0.imp_right And.right
  have hR1 : 1 ≤ R.frames := hR0.resolve_left (by decide)
  have S : CallFix p m c cX28_isText 3 s args ev_W RX28 := ⟨hx, hb, hml, hown, fun w hw => hts w (List.mem_cons_of_mem _ hw)⟩
  have K := fun (pc : Nat) (x : ev_I ⊕ Nat) => ev_code_at (P := fun pc f => ev_Sim p l e R s m args below meth c Q 3 D ev_cl A s.heap ex ad0 ev_ty pc f) (K := fun pc k => ev_stop k cX28_isText pc (some .boolean)) (t := [ev_r97_0 E, ev_r97_1 E, ev_r97_2 E]) ⟨ev_h97_0 hRf hR1 hRl hRc hRs hE hXs hA S hname, ⟨ev_h97_1 hRf hR1 hRl hRc hRs hE hXs hA S hname, ⟨ev_h97_2 hRf hR1 hRl hRc hRs hE hXs hA S hname, trivial⟩⟩⟩ (pc := pc) (x := x)
  exact ⟨fun pc f hf => K pc _ hf, fun pc k hk => K pc _ hk⟩
theorem ev_t98 {l : Launch} {D : va_G} {A : Nat → Prop} {ex : Nat → Value} : k_TbQ l D ev_cl A ex ev_ty (ev_XT A ex) ev_y ev_b ev_nL ev_ret ev_ws ev_cm ev_sm 0 150 98 ev_m98 := by
  refine Or.inr ⟨by decide +kernel, ⟨ev_W, Or.inl rfl⟩, fun d E hd6 hE p e R s m args below meth c Q ad0 hx hb hml hname hown hts hXs hA hRf0 hR0 hRl hRc hRs => ?_⟩
  have hRf := hRf0.imp_right And.right
  have hR1 : 1 ≤ R.frames := hR0.resolve_left (by decide)
  have S : CallFix p m c cX28_isTextByte 1 s args ev_W RX28 := ⟨hx, hb, hml, hown, fun w hw => hts w (List.mem_cons_of_mem _ hw)⟩
  have K := fun (pc : Nat) (x : ev_I ⊕ Nat) => ev_code_at (P := fun pc f => ev_Sim p l e R s m args below meth c Q 1 D ev_cl A s.heap ex ad0 ev_ty pc f) (K := fun pc k => ev_stop k cX28_isTextByte pc (some .boolean)) (t := [ev_r98_0 E, ev_r98_1 E]) ⟨ev_h98_0 hRf hR1 hRl hRc hRs hE hXs hA S hname, ⟨ev_h98_1 hRf hR1 hRl hRc hRs hE hXs hA S hname, trivial⟩⟩ (pc := pc) (x := x)
  exact ⟨fun pc f hf => K pc _ hf, fun pc k hk => K pc _ hk⟩
theorem ev_t99 {l : Launch} {D : va_G} {A : Nat → Prop} {ex : Nat → Value} : k_TbQ l D ev_cl A ex ev_ty (ev_XT A ex) ev_y ev_b ev_nL ev_ret ev_ws ev_cm ev_sm 0 150 99 ev_m99 := by
  refine Or.inr ⟨by decide +kernel, ⟨ev_W, Or.inl rfl⟩, fun d E hd6 hE p e R s m args below meth c Q ad0 hx hb hml hname hown hts hXs hA hRf0 hR0 hRl hRc hRs => ?_⟩
  have hRf := hRf0.imp_right And.right
  have hR1 : 1 ≤ R.frames := hR0.resolve_left (by decide)
  have S : CallFix p m c cX28_nameEnd 3 s args ev_W RX28 := ⟨hx, hb, hml, hown, fun w hw => hts w (List.mem_cons_of_mem _ hw)⟩
  have K := fun (pc : Nat) (x : ev_I ⊕ Nat) => ev_code_at (P := fun pc f => ev_Sim p l e R s m args below meth c Q 3 D ev_cl A s.heap ex ad0 ev_ty pc f) (K := fun pc k => ev_stop k cX28_nameEnd pc (some .int)) (t := [ev_r99_0 E, ev_r99_1 E, ev_r99_2 E, ev_r99_3 E]) ⟨ev_h99_0 hRf hR1 hRl hRc hRs hE hXs hA S hname, ⟨ev_h99_1 hRf hR1 hRl hRc hRs hE hXs hA S hname, ⟨ev_h99_2 hRf hR1 hRl hRc hRs hE hXs hA S hname, ⟨ev_h99_3 hRf hR1 hRl hRc hRs hE hXs hA S hname, trivial⟩⟩⟩⟩ (pc := pc) (x := x)
  exact ⟨fun pc f hf => K pc _ hf, fun pc k hk => K pc _ hk⟩
theorem ev_t100 {l : Launch} {D : va_G} {A : Nat → Prop} {ex : Nat → Value} : k_TbQ l D ev_cl A ex ev_ty (ev_XT A ex) ev_y ev_b ev_nL ev_ret ev_ws ev_cm ev_sm 0 150 100 ev_m100 := by
  refine Or.inr ⟨by decide +kernel, ⟨ev_W, Or.inl rfl⟩, fun d E hd6 hE p e R s m args below meth c Q ad0 hx hb hml hname hown hts hXs hA hRf0 hR0 hRl hRc hRs => ?_⟩
  have hRf := hRf0.imp_right And.right
  have hR1 : 1 ≤ R.frames := hR0.resolve_left (by decide)
  have S : CallFix p m c cX28_oneByte 2 s args ev_W RX28 := ⟨hx, hb, hml, hown, fun w hw => hts w (List.mem_cons_of_mem _ hw)⟩
  have K := fun (pc : Nat) (x : ev_I ⊕ Nat) => ev_code_at (P := fun pc f => ev_Sim p l e R s m args below meth c Q 2 D ev_cl A s.heap ex ad0 ev_ty pc f) (K := fun pc k => ev_stop k cX28_oneByte pc (some (.array .byte))) (t := [ev_r100_0 E, ev_r100_1 E, ev_r100_2 E]) ⟨ev_h100_0 hRf hR1 hRl hRc hRs hE hXs hA S hname, ⟨ev_h100_1 hRf hR1 hRl hRc hRs hE hXs hA S hname, ⟨ev_h100_2 hRf hR1 hRl hRc hRs hE hXs hA S hname, trivial⟩⟩⟩ (pc := pc) (x := x)
  exact ⟨fun pc f hf => K pc _ hf, fun pc k hk => K pc _ hk⟩
theorem ev_t101 {l : Launch} {D : va_G} {A : Nat → Prop} {ex : Nat → Value} : k_TbQ l D ev_cl A ex ev_ty (ev_XT A ex) ev_y ev_b ev_nL ev_ret ev_ws ev_cm ev_sm 0 150 101 ev_m101 := by
  refine Or.inr ⟨by decide +kernel, ⟨ev_W, Or.inl rfl⟩, fun d E hd6 hE p e R s m args below meth c Q ad0 hx hb hml hname hown hts hXs hA hRf0 hR0 hRl hRc hRs => ?_⟩
  have hRf := hRf0.imp_right And.right
  have hR1 : 1 ≤ R.frames := hR0.resolve_left (by decide)
  have S : CallFix p m c cX28_opened 5 s args ev_W RX28 := ⟨hx, hb, hml, hown, fun w hw => hts w (List.mem_cons_of_mem _ hw)⟩
  have K := fun (pc : Nat) (x : ev_I ⊕ Nat) => ev_code_at (P := fun pc f => ev_Sim p l e R s m args below meth c Q 5 D ev_cl A s.heap ex ad0 ev_ty pc f) (K := fun pc k => ev_stop k cX28_opened pc (some (.object "TextShellModel$Open"))) (t := [ev_r101_0 E, ev_r101_1 E, ev_r101_2 E]) ⟨ev_h101_0 hRf hR1 hRl hRc hRs hE hXs hA S hname, ⟨ev_h101_1 hRf hR1 hRl hRc hRs hE hXs hA S hname, ⟨ev_h101_2 hRf hR1 hRl hRc hRs hE hXs hA S hname, trivial⟩⟩⟩ (pc := pc) (x := x)
  exact ⟨fun pc f hf => K pc _ hf, fun pc k hk => K pc _ hk⟩
theorem ev_t102 {l : Launch} {D : va_G} {A : Nat → Prop} {ex : Nat → Value} : k_TbQ l D ev_cl A ex ev_ty (ev_XT A ex) ev_y ev_b ev_nL ev_ret ev_ws ev_cm ev_sm 0 150 102 ev_m102 := by
  refine Or.inr ⟨by decide +kernel, ⟨ev_W, Or.inl rfl⟩, fun d E hd6 hE p e R s m args below meth c Q ad0 hx hb hml hname hown hts hXs hA hRf0 hR0 hRl hRc hRs => ?_⟩
  have hRf := hRf0.imp_right And.right
  have hR1 : 1 ≤ R.frames := hR0.resolve_left (by decide)
  have S : CallFix p m c cX28_part 5 s args ev_W RX28 := ⟨hx, hb, hml, hown, fun w hw => hts w (List.mem_cons_of_mem _ hw)⟩
  have K := fun (pc : Nat) (x : ev_I ⊕ Nat) => ev_code_at (P := fun pc f => ev_Sim p l e R s m args below meth c Q 5 D ev_cl A s.heap ex ad0 ev_ty pc f) (K := fun pc k => ev_stop k cX28_part pc (some (.array .byte))) (t := [ev_r102_0 E, ev_r102_1 E, ev_r102_2 E]) ⟨ev_h102_0 hRf hR1 hRl hRc hRs hE hXs hA S hname, ⟨ev_h102_1 hRf hR1 hRl hRc hRs hE hXs hA S hname, ⟨ev_h102_2 hRf hR1 hRl hRc hRs hE hXs hA S hname, trivial⟩⟩⟩ (pc := pc) (x := x)
  exact ⟨fun pc f hf => K pc _ hf, fun pc k hk => K pc _ hk⟩
theorem ev_t103 {l : Launch} {D : va_G} {A : Nat → Prop} {ex : Nat → Value} : k_TbQ l D ev_cl A ex ev_ty (ev_XT A ex) ev_y ev_b ev_nL ev_ret ev_ws ev_cm ev_sm 0 150 103 ev_m103 := by
  refine Or.inr ⟨by decide +kernel, ⟨ev_W, Or.inl rfl⟩, fun d E hd6 hE p e R s m args below meth c Q ad0 hx hb hml hname hown hts hXs hA hRf0 hR0 hRl hRc hRs => ?_⟩
  have hRf := hRf0.imp_right And.right
  have hR1 : 1 ≤ R.frames := hR0.resolve_left (by decide)
  have S : CallFix p m c cX28_part 5 s args ev_W RX28 := ⟨hx, hb, hml, hown, fun w hw => hts w (List.mem_cons_of_mem _ hw)⟩
  have K := fun (pc : Nat) (x : ev_I ⊕ Nat) => ev_code_at (P := fun pc f => ev_Sim p l e R s m args below meth c Q 5 D ev_cl A s.heap ex ad0 ev_ty pc f) (K := fun pc k => ev_stop k cX28_part pc (some (.array .byte))) (t := [ev_r103_0 E, ev_r103_1 E, ev_r103_2 E]) ⟨ev_h103_0 hRf hR1 hRl hRc hRs hE hXs hA S hname, ⟨ev_h103_1 hRf hR1 hRl hRc hRs hE hXs hA S hname, ⟨ev_h103_2 hRf hR1 hRl hRc hRs hE hXs hA S hname, trivial⟩⟩⟩ (pc := pc) (x := x)
  exact ⟨fun pc f hf => K pc _ hf, fun pc k hk => K pc _ hk⟩
theorem ev_t104 {l : Launch} {D : va_G} {A : Nat → Prop} {ex : Nat → Value} : k_TbQ l D ev_cl A ex ev_ty (ev_XT A ex) ev_y ev_b ev_nL ev_ret ev_ws ev_cm ev_sm 0 150 104 ev_m104 := by
  refine Or.inr ⟨by decide +kernel, ⟨ev_W, Or.inl rfl⟩, fun d E hd6 hE p e R s m args below meth c Q ad0 hx hb hml hname hown hts hXs hA hRf0 hR0 hRl hRc hRs => ?_⟩
  have hRf := hRf0.imp_right And.right
  have hR1 : 1 ≤ R.frames := hR0.resolve_left (by decide)
  have S : CallFix p m c cX28_put_ 9 s args ev_W RX28 := ⟨hx, hb, hml, hown, fun w hw => hts w (List.mem_cons_of_mem _ hw)⟩
  have K := fun (pc : Nat) (x : ev_I ⊕ Nat) => ev_code_at (P := fun pc f => ev_Sim p l e R s m args below meth c Q 9 D ev_cl A s.heap ex ad0 ev_ty pc f) (K := fun pc k => ev_stop k cX28_put_ pc (some .boolean)) (t := [ev_r104_0 E, ev_r104_1 E, ev_r104_2 E, ev_r104_3 E, ev_r104_4 E, ev_r104_5 E, [], [], ev_r104_8 E, ev_r104_9 E, ev_r104_10 E, ev_r104_11 E]) ⟨ev_h104_0 hRf hR1 hRl hRc hRs hE hXs hA S hname, ⟨ev_h104_1 hRf hR1 hRl hRc hRs hE hXs hA S hname, ⟨ev_h104_2 hRf hR1 hRl hRc hRs hE hXs hA S hname, ⟨ev_h104_3 hRf hR1 hRl hRc hRs hE hXs hA S hname, ⟨ev_h104_4 hRf hR1 hRl hRc hRs hE hXs hA S hname, ⟨ev_h104_5 hRf hR1 hRl hRc hRs hE hXs hA S hname, ⟨ev_pz, ⟨ev_pz, ⟨ev_h104_8 hRf hR1 hRl hRc hRs hE hXs hA S hname, ⟨ev_h104_9 hRf hR1 hRl hRc hRs hE hXs hA S hname, ⟨ev_h104_10 hRf hR1 hRl hRc hRs hE hXs hA S hname, ⟨ev_h104_11 hRf hR1 hRl hRc hRs hE hXs hA S hname, trivial⟩⟩⟩⟩⟩⟩⟩⟩⟩⟩⟩⟩ (pc := pc) (x := x)
  exact ⟨fun pc f hf => K pc _ hf, fun pc k hk => K pc _ hk⟩
theorem ev_t105 {l : Launch} {D : va_G} {A : Nat → Prop} {ex : Nat → Value} : k_TbQ l D ev_cl A ex ev_ty (ev_XT A ex) ev_y ev_b ev_nL ev_ret ev_ws ev_cm ev_sm 0 150 105 ev_m105 := by
  refine Or.inr ⟨by decide +kernel, ⟨ev_W, Or.inl rfl⟩, fun d E hd6 hE p e R s m args below meth c Q ad0 hx hb hml hname hown hts hXs hA hRf0 hR0 hRl hRc hRs => ?_⟩
  have hRf := hRf0.imp_right And.right
  have hR1 : 1 ≤ R.frames := hR0.resolve_left (by decide)
  have S : CallFix p m c cX28_read_ 3 s args ev_W RX28 := ⟨hx, hb, hml, hown, fun w hw => hts w (List.mem_cons_of_mem _ hw)⟩
  have K := fun (pc : Nat) (x : ev_I ⊕ Nat) => ev_code_at (P := fun pc f => ev_Sim p l e R s m args below meth c Q 3 D ev_cl A s.heap ex ad0 ev_ty pc f) (K := fun pc k => ev_stop k cX28_read_ pc (some .int)) (t := [ev_r105_0 E, ev_r105_1 E, ev_r105_2 E]) ⟨ev_h105_0 hRf hR1 hRl hRc hRs hE hXs hA S hname, ⟨ev_h105_1 hRf hR1 hRl hRc hRs hE hXs hA S hname, ⟨ev_h105_2 hRf hR1 hRl hRc hRs hE hXs hA S hname, trivial⟩⟩⟩ (pc := pc) (x := x)
  exact ⟨fun pc f hf => K pc _ hf, fun pc k hk => K pc _ hk⟩
theorem ev_t106 {l : Launch} {D : va_G} {A : Nat → Prop} {ex : Nat → Value} : k_TbQ l D ev_cl A ex ev_ty (ev_XT A ex) ev_y ev_b ev_nL ev_ret ev_ws ev_cm ev_sm 0 150 106 ev_m106 := by
  refine Or.inr ⟨by decide +kernel, ⟨ev_W, Or.inr ⟨_, rfl⟩⟩, fun d E hd6 hE p e R s m args below meth c Q ad0 hx hb hml hname hown hts hXs hA hRf0 hR0 hRl hRc hRs => ?_⟩
  have hRf := hRf0.imp_right And.right
  have hR1 : 1 ≤ R.frames := hR0.resolve_left (by decide)
  have S : CallFix p m c cX28_reads 3 s args ev_W RX28 := ⟨hx, hb, hml, hown, fun w hw => hts w (List.mem_cons_of_mem _ hw)⟩
  have K := fun (pc : Nat) (x : ev_I ⊕ Nat) => ev_code_at (P := fun pc f => ev_Sim p l e R s m args below meth c Q 3 D ev_cl A s.heap ex ad0 ev_ty pc f) (K := fun pc k => ev_stop k cX28_reads pc (some .boolean)) (t := [ev_r106_0 E, ev_r106_1 E, ev_r106_2 E]) ⟨ev_h106_0 hRf hR1 hRl hRc hRs hE hXs hA S hname, ⟨ev_h106_1 hRf hR1 hRl hRc hRs hE hXs hA S hname, ⟨ev_h106_2 hRf hR1 hRl hRc hRs hE hXs hA S hname, trivial⟩⟩⟩ (pc := pc) (x := x)
  exact ⟨fun pc f hf => K pc _ hf, fun pc k hk => K pc _ hk⟩
theorem ev_t107 {l : Launch} {D : va_G} {A : Nat → Prop} {ex : Nat → Value} : k_TbQ l D ev_cl A ex ev_ty (ev_XT A ex) ev_y ev_b ev_nL ev_ret ev_ws ev_cm ev_sm 0 150 107 ev_m107 := by
  refine Or.inr ⟨by decide +kernel, ⟨ev_W, Or.inl rfl⟩, fun d E hd6 hE p e R s m args below meth c Q ad0 hx hb hml hname hown hts hXs hA hRf0 hR0 hRl hRc hRs => ?_⟩
  have hRf := hRf0.imp_right And.right
  have hR1 : 1 ≤ R.frames := hR0.resolve_left (by decide)
  have S : CallFix p m c cX28_room 2 s args ev_W RX28 := ⟨hx, hb, hml, hown, fun w hw => hts w (List.mem_cons_of_mem _ hw)⟩
  have K := fun (pc : Nat) (x : ev_I ⊕ Nat) => ev_code_at (P := fun pc f => ev_Sim p l e R s m args below meth c Q 2 D ev_cl A s.heap ex ad0 ev_ty pc f) (K := fun pc k => ev_stop k cX28_room pc none) (t := [ev_r107_0 E, ev_r107_1 E, ev_r107_2 E]) ⟨ev_h107_0 hRf hR1 hRl hRc hRs hE hXs hA S hname, ⟨ev_h107_1 hRf hR1 hRl hRc hRs hE hXs hA S hname, ⟨ev_h107_2 hRf hR1 hRl hRc hRs hE hXs hA S hname, trivial⟩⟩⟩ (pc := pc) (x := x)
  exact ⟨fun pc f hf => K pc _ hf, fun pc k hk => K pc _ hk⟩
theorem ev_t108 {l : Launch} {D : va_G} {A : Nat → Prop} {ex : Nat → Value} : k_TbQ l D ev_cl A ex ev_ty (ev_XT A ex) ev_y ev_b ev_nL ev_ret ev_ws ev_cm ev_sm 0 150 108 ev_m108 := by
  refine Or.inr ⟨by decide +kernel, ⟨ev_W, Or.inl rfl⟩, fun d E hd6 hE p e R s m args below meth c Q ad0 hx hb hml hname hown hts hXs hA hRf0 hR0 hRl hRc hRs => ?_⟩
  have hRf := hRf0.imp_right And.right
  have hR1 : 1 ≤ R.frames := hR0.resolve_left (by decide)
  have S : CallFix p m c cX28_rowOf 4 s args ev_W RX28 := ⟨hx, hb, hml, hown, fun w hw => hts w (List.mem_cons_of_mem _ hw)⟩
  have K := fun (pc : Nat) (x : ev_I ⊕ Nat) => ev_code_at (P := fun pc f => ev_Sim p l e R s m args below meth c Q 4 D ev_cl A s.heap ex ad0 ev_ty pc f) (K := fun pc k => ev_stop k cX28_rowOf pc (some (.array .byte))) (t := [ev_r108_0 E, ev_r108_1 E, ev_r108_2 E]) ⟨ev_h108_0 hRf hR1 hRl hRc hRs hE hXs hA S hname, ⟨ev_h108_1 hRf hR1 hRl hRc hRs hE hXs hA S hname, ⟨ev_h108_2 hRf hR1 hRl hRc hRs hE hXs hA S hname, trivial⟩⟩⟩ (pc := pc) (x := x)
  exact ⟨fun pc f hf => K pc _ hf, fun pc k hk => K pc _ hk⟩
theorem ev_t109 {l : Launch} {D : va_G} {A : Nat → Prop} {ex : Nat → Value} : k_TbQ l D ev_cl A ex ev_ty (ev_XT A ex) ev_y ev_b ev_nL ev_ret ev_ws ev_cm ev_sm 0 150 109 ev_m109 := by
  refine Or.inr ⟨by decide +kernel, ⟨ev_W, Or.inl rfl⟩, fun d E hd6 hE p e R s m args below meth c Q ad0 hx hb hml hname hown hts hXs hA hRf0 hR0 hRl hRc hRs => ?_⟩
  have hRf := hRf0.imp_right And.right
  have hR1 : 1 ≤ R.frames := hR0.resolve_left (by decide)
  have S : CallFix p m c cX28_same 3 s args ev_W RX28 := ⟨hx, hb, hml, hown, fun w hw => hts w (List.mem_cons_of_mem _ hw)⟩
  have K := fun (pc : Nat) (x : ev_I ⊕ Nat) => ev_code_at (P := fun pc f => ev_Sim p l e R s m args below meth c Q 3 D ev_cl A s.heap ex ad0 ev_ty pc f) (K := fun pc k => ev_stop k cX28_same pc (some .boolean)) (t := [ev_r109_0 E, ev_r109_1 E, ev_r109_2 E]) ⟨ev_h109_0 hRf hR1 hRl hRc hRs hE hXs hA S hname, ⟨ev_h109_1 hRf hR1 hRl hRc hRs hE hXs hA S hname, ⟨ev_h109_2 hRf hR1 hRl hRc hRs hE hXs hA S hname, trivial⟩⟩⟩ (pc := pc) (x := x)
  exact ⟨fun pc f hf => K pc _ hf, fun pc k hk => K pc _ hk⟩
theorem ev_t110 {l : Launch} {D : va_G} {A : Nat → Prop} {ex : Nat → Value} : k_TbQ l D ev_cl A ex ev_ty (ev_XT A ex) ev_y ev_b ev_nL ev_ret ev_ws ev_cm ev_sm 0 150 110 ev_m110 := by
  refine Or.inr ⟨by decide +kernel, ⟨ev_W, Or.inl rfl⟩, fun d E hd6 hE p e R s m args below meth c Q ad0 hx hb hml hname hown hts hXs hA hRf0 hR0 hRl hRc hRs => ?_⟩
  have hRf := hRf0.imp_right And.right
  have hR1 : 1 ≤ R.frames := hR0.resolve_left (by decide)
  have S : CallFix p m c cX28_scriptOf 8 s args ev_W RX28 := ⟨hx, hb, hml, hown, fun w hw => hts w (List.mem_cons_of_mem _ hw)⟩
  have K := fun (pc : Nat) (x : ev_I ⊕ Nat) => ev_code_at (P := fun pc f => ev_Sim p l e R s m args below meth c Q 8 D ev_cl A s.heap ex ad0 ev_ty pc f) (K := fun pc k => ev_stop k cX28_scriptOf pc (some (.object "TextShellModel$AndOr"))) (t := [ev_r110_0 E, ev_r110_1 E, [], [], ev_r110_4 E, ev_r110_5 E, ev_r110_6 E]) ⟨ev_h110_0 hRf hR1 hRl hRc hRs hE hXs hA S hname, ⟨ev_h110_1 hRf hR1 hRl hRc hRs hE hXs hA S hname, ⟨ev_pz, ⟨ev_pz, ⟨ev_h110_4 hRf hR1 hRl hRc hRs hE hXs hA S hname, ⟨ev_h110_5 hRf hR1 hRl hRc hRs hE hXs hA S hname, ⟨ev_h110_6 hRf hR1 hRl hRc hRs hE hXs hA S hname, trivial⟩⟩⟩⟩⟩⟩⟩ (pc := pc) (x := x)
  exact ⟨fun pc f hf => K pc _ hf, fun pc k hk => K pc _ hk⟩
theorem ev_t111 {l : Launch} {D : va_G} {A : Nat → Prop} {ex : Nat → Value} : k_TbQ l D ev_cl A ex ev_ty (ev_XT A ex) ev_y ev_b ev_nL ev_ret ev_ws ev_cm ev_sm 0 150 111 ev_m111 := by
  refine Or.inr ⟨by decide +kernel, ⟨ev_W, Or.inl rfl⟩, fun d E hd6 hE p e R s m args below meth c Q ad0 hx hb hml hname hown hts hXs hA hRf0 hR0 hRl hRc hRs => ?_⟩
  have hRf := hRf0.imp_right And.right
  have hR1 : 1 ≤ R.frames := hR0.resolve_left (by decide)
  have S : CallFix p m c cX28_setTo 4 s args ev_W RX28 := ⟨hx, hb, hml, hown, fun w hw => hts w (List.mem_cons_of_mem _ hw)⟩
  have K := fun (pc : Nat) (x : ev_I ⊕ Nat) => ev_code_at (P := fun pc f => ev_Sim p l e R s m args below meth c Q 4 D ev_cl A s.heap ex ad0 ev_ty pc f) (K := fun pc k => ev_stop k cX28_setTo pc none) (t := [ev_r111_0 E, ev_r111_1 E, ev_r111_2 E, ev_r111_3 E, ev_r111_4 E]) ⟨ev_h111_0 hRf hR1 hRl hRc hRs hE hXs hA S hname, ⟨ev_h111_1 hRf hR1 hRl hRc hRs hE hXs hA S hname, ⟨ev_h111_2 hRf hR1 hRl hRc hRs hE hXs hA S hname, ⟨ev_h111_3 hRf hR1 hRl hRc hRs hE hXs hA S hname, ⟨ev_h111_4 hRf hR1 hRl hRc hRs hE hXs hA S hname, trivial⟩⟩⟩⟩⟩ (pc := pc) (x := x)
  exact ⟨fun pc f hf => K pc _ hf, fun pc k hk => K pc _ hk⟩
theorem ev_t112 {l : Launch} {D : va_G} {A : Nat → Prop} {ex : Nat → Value} : k_TbQ l D ev_cl A ex ev_ty (ev_XT A ex) ev_y ev_b ev_nL ev_ret ev_ws ev_cm ev_sm 0 150 112 ev_m112 := by
  refine Or.inr ⟨by decide +kernel, ⟨ev_W, Or.inl rfl⟩, fun d E hd6 hE p e R s m args below meth c Q ad0 hx hb hml hname hown hts hXs hA hRf0 hR0 hRl hRc hRs => ?_⟩
  have hRf := hRf0.imp_right And.right
  have hR1 : 1 ≤ R.frames := hR0.resolve_left (by decide)
  have S : CallFix p m c cX28_taken 3 s args ev_W RX28 := ⟨hx, hb, hml, hown, fun w hw => hts w (List.mem_cons_of_mem _ hw)⟩
  have K := fun (pc : Nat) (x : ev_I ⊕ Nat) => ev_code_at (P := fun pc f => ev_Sim p l e R s m args below meth c Q 3 D ev_cl A s.heap ex ad0 ev_ty pc f) (K := fun pc k => ev_stop k cX28_taken pc (some (.array .byte))) (t := [ev_r112_0 E, ev_r112_1 E]) ⟨ev_h112_0 hRf hR1 hRl hRc hRs hE hXs hA S hname, ⟨ev_h112_1 hRf hR1 hRl hRc hRs hE hXs hA S hname, trivial⟩⟩ (pc := pc) (x := x)
  exact ⟨fun pc f hf => K pc _ hf, fun pc k hk => K pc _ hk⟩
theorem ev_t113 {l : Launch} {D : va_G} {A : Nat → Prop} {ex : Nat → Value} : k_TbQ l D ev_cl A ex ev_ty (ev_XT A ex) ev_y ev_b ev_nL ev_ret ev_ws ev_cm ev_sm 0 150 113 ev_m113 := by
  refine Or.inr ⟨by decide +kernel, ⟨ev_W, Or.inl rfl⟩, fun d E hd6 hE p e R s m args below meth c Q ad0 hx hb hml hname hown hts hXs hA hRf0 hR0 hRl hRc hRs => ?_⟩
  have hRf := hRf0.imp_right And.right
  have hR1 : 1 ≤ R.frames := hR0.resolve_left (by decide)
  have S : CallFix p m c cX28_touch 3 s args ev_W RX28 := ⟨hx, hb, hml, hown, fun w hw => hts w (List.mem_cons_of_mem _ hw)⟩
  have K := fun (pc : Nat) (x : ev_I ⊕ Nat) => ev_code_at (P := fun pc f => ev_Sim p l e R s m args below meth c Q 3 D ev_cl A s.heap ex ad0 ev_ty pc f) (K := fun pc k => ev_stop k cX28_touch pc none) (t := [ev_r113_0 E]) ⟨ev_h113_0 hRf hR1 hRl hRc hRs hE hXs hA S hname, trivial⟩ (pc := pc) (x := x)
  exact ⟨fun pc f hf => K pc _ hf, fun pc k hk => K pc _ hk⟩
theorem ev_t114 {l : Launch} {D : va_G} {A : Nat → Prop} {ex : Nat → Value} : k_TbQ l D ev_cl A ex ev_ty (ev_XT A ex) ev_y ev_b ev_nL ev_ret ev_ws ev_cm ev_sm 0 150 114 ev_m114 := by
  refine Or.inr ⟨by decide +kernel, ⟨ev_W, Or.inl rfl⟩, fun d E hd6 hE p e R s m args below meth c Q ad0 hx hb hml hname hown hts hXs hA hRf0 hR0 hRl hRc hRs => ?_⟩
  have hRf := hRf0.imp_right And.right
  have hR1 : 1 ≤ R.frames := hR0.resolve_left (by decide)
  have S : CallFix p m c cX14_init 1 s args ev_W RX14 := ⟨hx, hb, hml, hown, fun w hw => hts w (List.mem_cons_of_mem _ hw)⟩
  have K := fun (pc : Nat) (x : ev_I ⊕ Nat) => ev_code_at (P := fun pc f => ev_Sim p l e R s m args below meth c Q 1 D ev_cl A s.heap ex ad0 ev_ty pc f) (K := fun pc k => ev_stop k cX14_init pc none) (t := [ev_r114_0 E]) ⟨ev_h114_0 hRf hR1 hRl hRc hRs hE hXs hA S hname, trivial⟩ (pc := pc) (x := x)
  exact ⟨fun pc f hf => K pc _ hf, fun pc k hk => K pc _ hk⟩
theorem ev_t115 {l : Launch} {D : va_G} {A : Nat → Prop} {ex : Nat → Value} : k_TbQ l D ev_cl A ex ev_ty (ev_XT A ex) ev_y ev_b ev_nL ev_ret ev_ws ev_cm ev_sm 0 150 115 ev_m115 := by
  refine Or.inr ⟨by decide +kernel, ⟨ev_W, Or.inl rfl⟩, fun d E hd6 hE p e R s m args below meth c Q ad0 hx hb hml hname hown hts hXs hA hRf0 hR0 hRl hRc hRs => ?_⟩
  have hRf := hRf0.imp_right And.right
  have hR1 : 1 ≤ R.frames := hR0.resolve_left (by decide)
  have S : CallFix p m c cX14_add 4 s args ev_W RX14 := ⟨hx, hb, hml, hown, fun w hw => hts w (List.mem_cons_of_mem _ hw)⟩
  have K := fun (pc : Nat) (x : ev_I ⊕ Nat) => ev_code_at (P := fun pc f => ev_Sim p l e R s m args below meth c Q 4 D ev_cl A s.heap ex ad0 ev_ty pc f) (K := fun pc k => ev_stop k cX14_add pc none) (t := [ev_r115_0 E, ev_r115_1 E, ev_r115_2 E, ev_r115_3 E, ev_r115_4 E]) ⟨ev_h115_0 hRf hR1 hRl hRc hRs hE hXs hA S hname, ⟨ev_h115_1 hRf hR1 hRl hRc hRs hE hXs hA S hname, ⟨ev_h115_2 hRf hR1 hRl hRc hRs hE hXs hA S hname, ⟨ev_h115_3 hRf hR1 hRl hRc hRs hE hXs hA S hname, ⟨ev_h115_4 hRf hR1 hRl hRc hRs hE hXs hA S hname, trivial⟩⟩⟩⟩⟩ (pc := pc) (x := x)
  exact ⟨fun pc f hf => K pc _ hf, fun pc k hk => K pc _ hk⟩
theorem ev_t116 {l : Launch} {D : va_G} {A : Nat → Prop} {ex : Nat → Value} : k_TbQ l D ev_cl A ex ev_ty (ev_XT A ex) ev_y ev_b ev_nL ev_ret ev_ws ev_cm ev_sm 0 150 116 ev_m116 := by
  refine Or.inr ⟨by decide +kernel, ⟨ev_W, Or.inl rfl⟩, fun d E hd6 hE p e R s m args below meth c Q ad0 hx hb hml hname hown hts hXs hA hRf0 hR0 hRl hRc hRs => ?_⟩
  have hRf := hRf0.imp_right And.right
  have hR1 : 1 ≤ R.frames := hR0.resolve_left (by decide)
  have S : CallFix p m c cX14_add 4 s args ev_W RX14 := ⟨hx, hb, hml, hown, fun w hw => hts w (List.mem_cons_of_mem _ hw)⟩
  have K := fun (pc : Nat) (x : ev_I ⊕ Nat) => ev_code_at (P := fun pc f => ev_Sim p l e R s m args below meth c Q 4 D ev_cl A s.heap ex ad0 ev_ty pc f) (K := fun pc k => ev_stop k cX14_add pc none) (t := [ev_r116_0 E, ev_r116_1 E, ev_r116_2 E, ev_r116_3 E, ev_r116_4 E]) ⟨ev_h116_0 hRf hR1 hRl hRc hRs hE hXs hA S hname, ⟨ev_h116_1 hRf hR1 hRl hRc hRs hE hXs hA S hname, ⟨ev_h116_2 hRf hR1 hRl hRc hRs hE hXs hA S hname, ⟨ev_h116_3 hRf hR1 hRl hRc hRs hE hXs hA S hname, ⟨ev_h116_4 hRf hR1 hRl hRc hRs hE hXs hA S hname, trivial⟩⟩⟩⟩⟩ (pc := pc) (x := x)
  exact ⟨fun pc f hf => K pc _ hf, fun pc k hk => K pc _ hk⟩
theorem ev_t117 {l : Launch} {D : va_G} {A : Nat → Prop} {ex : Nat → Value} : k_TbQ l D ev_cl A ex ev_ty (ev_XT A ex) ev_y ev_b ev_nL ev_ret ev_ws ev_cm ev_sm 0 150 117 ev_m117 := by
  refine Or.inr ⟨by decide +kernel, ⟨ev_W, Or.inl rfl⟩, fun d E hd6 hE p e R s m args below meth c Q ad0 hx hb hml hname hown hts hXs hA hRf0 hR0 hRl hRc hRs => ?_⟩
  have hRf := hRf0.imp_right And.right
  have hR1 : 1 ≤ R.frames := hR0.resolve_left (by decide)
  have S : CallFix p m c cX14_add 4 s args ev_W RX14 := ⟨hx, hb, hml, hown, fun w hw => hts w (List.mem_cons_of_mem _ hw)⟩
  have K := fun (pc : Nat) (x : ev_I ⊕ Nat) => ev_code_at (P := fun pc f => ev_Sim p l e R s m args below meth c Q 4 D ev_cl A s.heap ex ad0 ev_ty pc f) (K := fun pc k => ev_stop k cX14_add pc none) (t := [ev_r117_0 E, ev_r117_1 E, ev_r117_2 E, ev_r117_3 E, ev_r117_4 E]) ⟨ev_h117_0 hRf hR1 hRl hRc hRs hE hXs hA S hname, ⟨ev_h117_1 hRf hR1 hRl hRc hRs hE hXs hA S hname, ⟨ev_h117_2 hRf hR1 hRl hRc hRs hE hXs hA S hname, ⟨ev_h117_3 hRf hR1 hRl hRc hRs hE hXs hA S hname, ⟨ev_h117_4 hRf hR1 hRl hRc hRs hE hXs hA S hname, trivial⟩⟩⟩⟩⟩ (pc := pc) (x := x)
  exact ⟨fun pc f hf => K pc _ hf, fun pc k hk => K pc _ hk⟩
theorem ev_t118 {l : Launch} {D : va_G} {A : Nat → Prop} {ex : Nat → Value} : k_TbQ l D ev_cl A ex ev_ty (ev_XT A ex) ev_y ev_b ev_nL ev_ret ev_ws ev_cm ev_sm 0 150 118 ev_m118 := by
  refine Or.inr ⟨by decide +kernel, ⟨ev_W, Or.inl rfl⟩, fun d E hd6 hE p e R s m args below meth c Q ad0 hx hb hml hname hown hts hXs hA hRf0 hR0 hRl hRc hRs => ?_⟩
  have hRf := hRf0.imp_right And.right
  have hR1 : 1 ≤ R.frames := hR0.resolve_left (by decide)
  have S : CallFix p m c cX14_add 4 s args ev_W RX14 := ⟨hx, hb, hml, hown, fun w hw => hts w (List.mem_cons_of_mem _ hw)⟩
  have K := fun (pc : Nat) (x : ev_I ⊕ Nat) => ev_code_at (P := fun pc f => ev_Sim p l e R s m args below meth c Q 4 D ev_cl A s.heap ex ad0 ev_ty pc f) (K := fun pc k => ev_stop k cX14_add pc none) (t := [ev_r118_0 E, ev_r118_1 E, ev_r118_2 E, ev_r118_3 E, ev_r118_4 E]) ⟨ev_h118_0 hRf hR1 hRl hRc hRs hE hXs hA S hname, ⟨ev_h118_1 hRf hR1 hRl hRc hRs hE hXs hA S hname, ⟨ev_h118_2 hRf hR1 hRl hRc hRs hE hXs hA S hname, ⟨ev_h118_3 hRf hR1 hRl hRc hRs hE hXs hA S hname, ⟨ev_h118_4 hRf hR1 hRl hRc hRs hE hXs hA S hname, trivial⟩⟩⟩⟩⟩ (pc := pc) (x := x)
  exact ⟨fun pc f hf => K pc _ hf, fun pc k hk => K pc _ hk⟩
theorem ev_t119 {l : Launch} {D : va_G} {A : Nat → Prop} {ex : Nat → Value} : k_TbQ l D ev_cl A ex ev_ty (ev_XT A ex) ev_y ev_b ev_nL ev_ret ev_ws ev_cm ev_sm 0 150 119 ev_m119 := by
  refine Or.inr ⟨by decide +kernel, ⟨ev_W, Or.inl rfl⟩, fun d E hd6 hE p e R s m args below meth c Q ad0 hx hb hml hname hown hts hXs hA hRf0 hR0 hRl hRc hRs => ?_⟩
  have hRf := hRf0.imp_right And.right
  have hR1 : 1 ≤ R.frames := hR0.resolve_left (by decide)
  have S : CallFix p m c cX18_init 1 s args ev_W RX18 := ⟨hx, hb, hml, hown, fun w hw => hts w (List.mem_cons_of_mem _ hw)⟩
  have K := fun (pc : Nat) (x : ev_I ⊕ Nat) => ev_code_at (P := fun pc f => ev_Sim p l e R s m args below meth c Q 1 D ev_cl A s.heap ex ad0 ev_ty pc f) (K := fun pc k => ev_stop k cX18_init pc none) (t := [ev_r119_0 E]) ⟨ev_h119_0 hRf hR1 hRl hRc hRs hE hXs hA S hname, trivial⟩ (pc := pc) (x := x)
  exact ⟨fun pc f hf => K pc _ hf, fun pc k hk => K pc _ hk⟩
theorem ev_t120 {l : Launch} {D : va_G} {A : Nat → Prop} {ex : Nat → Value} : k_TbQ l D ev_cl A ex ev_ty (ev_XT A ex) ev_y ev_b ev_nL ev_ret ev_ws ev_cm ev_sm 0 150 120 ev_m120 := by
  refine Or.inr ⟨by decide +kernel, ⟨ev_W, Or.inl rfl⟩, fun d E hd6 hE p e R s m args below meth c Q ad0 hx hb hml hname hown hts hXs hA hRf0 hR0 hRl hRc hRs => ?_⟩
  have hRf := hRf0.imp_right And.right
  have hR1 : 1 ≤ R.frames := hR0.resolve_left (by decide)
  have S : CallFix p m c cX19_init 1 s args ev_W RX19 := ⟨hx, hb, hml, hown, fun w hw => hts w (List.mem_cons_of_mem _ hw)⟩
  have K := fun (pc : Nat) (x : ev_I ⊕ Nat) => ev_code_at (P := fun pc f => ev_Sim p l e R s m args below meth c Q 1 D ev_cl A s.heap ex ad0 ev_ty pc f) (K := fun pc k => ev_stop k cX19_init pc none) (t := [ev_r120_0 E]) ⟨ev_h120_0 hRf hR1 hRl hRc hRs hE hXs hA S hname, trivial⟩ (pc := pc) (x := x)
  exact ⟨fun pc f hf => K pc _ hf, fun pc k hk => K pc _ hk⟩
theorem ev_t121 {l : Launch} {D : va_G} {A : Nat → Prop} {ex : Nat → Value} : k_TbQ l D ev_cl A ex ev_ty (ev_XT A ex) ev_y ev_b ev_nL ev_ret ev_ws ev_cm ev_sm 0 150 121 ev_m121 := by
  refine Or.inr ⟨by decide +kernel, ⟨ev_W, Or.inl rfl⟩, fun d E hd6 hE p e R s m args below meth c Q ad0 hx hb hml hname hown hts hXs hA hRf0 hR0 hRl hRc hRs => ?_⟩
  have hRf := hRf0.imp_right And.right
  have hR1 : 1 ≤ R.frames := hR0.resolve_left (by decide)
  have S : CallFix p m c cX21_init 3 s args ev_W RX21 := ⟨hx, hb, hml, hown, fun w hw => hts w (List.mem_cons_of_mem _ hw)⟩
  have K := fun (pc : Nat) (x : ev_I ⊕ Nat) => ev_code_at (P := fun pc f => ev_Sim p l e R s m args below meth c Q 3 D ev_cl A s.heap ex ad0 ev_ty pc f) (K := fun pc k => ev_stop k cX21_init pc none) (t := [ev_r121_0 E, ev_r121_1 E, ev_r121_2 E]) ⟨ev_h121_0 hRf hR1 hRl hRc hRs hE hXs hA S hname, ⟨ev_h121_1 hRf hR1 hRl hRc hRs hE hXs hA S hname, ⟨ev_h121_2 hRf hR1 hRl hRc hRs hE hXs hA S hname, trivial⟩⟩⟩ (pc := pc) (x := x)
  exact ⟨fun pc f hf => K pc _ hf, fun pc k hk => K pc _ hk⟩
theorem ev_t122 {l : Launch} {D : va_G} {A : Nat → Prop} {ex : Nat → Value} : k_TbQ l D ev_cl A ex ev_ty (ev_XT A ex) ev_y ev_b ev_nL ev_ret ev_ws ev_cm ev_sm 0 150 122 ev_m122 := by
  refine Or.inr ⟨by decide +kernel, ⟨ev_W, Or.inl rfl⟩, fun d E hd6 hE p e R s m args below meth c Q ad0 hx hb hml hname hown hts hXs hA hRf0 hR0 hRl hRc hRs => ?_⟩
  have hRf := hRf0.imp_right And.right
  have hR1 : 1 ≤ R.frames := hR0.resolve_left (by decide)
  have S : CallFix p m c cX22_init 1 s args ev_W RX22 := ⟨hx, hb, hml, hown, fun w hw => hts w (List.mem_cons_of_mem _ hw)⟩
  have K := fun (pc : Nat) (x : ev_I ⊕ Nat) => ev_code_at (P := fun pc f => ev_Sim p l e R s m args below meth c Q 1 D ev_cl A s.heap ex ad0 ev_ty pc f) (K := fun pc k => ev_stop k cX22_init pc none) (t := [ev_r122_0 E]) ⟨ev_h122_0 hRf hR1 hRl hRc hRs hE hXs hA S hname, trivial⟩ (pc := pc) (x := x)
  exact ⟨fun pc f hf => K pc _ hf, fun pc k hk => K pc _ hk⟩
theorem ev_t123 {l : Launch} {D : va_G} {A : Nat → Prop} {ex : Nat → Value} : k_TbQ l D ev_cl A ex ev_ty (ev_XT A ex) ev_y ev_b ev_nL ev_ret ev_ws ev_cm ev_sm 0 150 123 ev_m123 := by
  refine Or.inr ⟨by decide +kernel, ⟨ev_W, Or.inl rfl⟩, fun d E hd6 hE p e R s m args below meth c Q ad0 hx hb hml hname hown hts hXs hA hRf0 hR0 hRl hRc hRs => ?_⟩
  have hRf := hRf0.imp_right And.right
  have hR1 : 1 ≤ R.frames := hR0.resolve_left (by decide)
  have S : CallFix p m c cX23_init 1 s args ev_W RX23 := ⟨hx, hb, hml, hown, fun w hw => hts w (List.mem_cons_of_mem _ hw)⟩
  have K := fun (pc : Nat) (x : ev_I ⊕ Nat) => ev_code_at (P := fun pc f => ev_Sim p l e R s m args below meth c Q 1 D ev_cl A s.heap ex ad0 ev_ty pc f) (K := fun pc k => ev_stop k cX23_init pc none) (t := [ev_r123_0 E]) ⟨ev_h123_0 hRf hR1 hRl hRc hRs hE hXs hA S hname, trivial⟩ (pc := pc) (x := x)
  exact ⟨fun pc f hf => K pc _ hf, fun pc k hk => K pc _ hk⟩
theorem ev_t124 {l : Launch} {D : va_G} {A : Nat → Prop} {ex : Nat → Value} : k_TbQ l D ev_cl A ex ev_ty (ev_XT A ex) ev_y ev_b ev_nL ev_ret ev_ws ev_cm ev_sm 0 150 124 ev_m124 := by
  refine Or.inr ⟨by decide +kernel, ⟨ev_W, Or.inl rfl⟩, fun d E hd6 hE p e R s m args below meth c Q ad0 hx hb hml hname hown hts hXs hA hRf0 hR0 hRl hRc hRs => ?_⟩
  have hRf := hRf0.imp_right And.right
  have hR1 : 1 ≤ R.frames := hR0.resolve_left (by decide)
  have S : CallFix p m c cX25_init 7 s args ev_W RX25 := ⟨hx, hb, hml, hown, fun w hw => hts w (List.mem_cons_of_mem _ hw)⟩
  have K := fun (pc : Nat) (x : ev_I ⊕ Nat) => ev_code_at (P := fun pc f => ev_Sim p l e R s m args below meth c Q 7 D ev_cl A s.heap ex ad0 ev_ty pc f) (K := fun pc k => ev_stop k cX25_init pc none) (t := [ev_r124_0 E, ev_r124_1 E, ev_r124_2 E, ev_r124_3 E, ev_r124_4 E]) ⟨ev_h124_0 hRf hR1 hRl hRc hRs hE hXs hA S hname, ⟨ev_h124_1 hRf hR1 hRl hRc hRs hE hXs hA S hname, ⟨ev_h124_2 hRf hR1 hRl hRc hRs hE hXs hA S hname, ⟨ev_h124_3 hRf hR1 hRl hRc hRs hE hXs hA S hname, ⟨ev_h124_4 hRf hR1 hRl hRc hRs hE hXs hA S hname, trivial⟩⟩⟩⟩⟩ (pc := pc) (x := x)
  exact ⟨fun pc f hf => K pc _ hf, fun pc k hk => K pc _ hk⟩
theorem ev_t125 {l : Launch} {D : va_G} {A : Nat → Prop} {ex : Nat → Value} : k_TbQ l D ev_cl A ex ev_ty (ev_XT A ex) ev_y ev_b ev_nL ev_ret ev_ws ev_cm ev_sm 0 150 125 ev_m125 := by
  refine Or.inr ⟨by decide +kernel, ⟨ev_W, Or.inl rfl⟩, fun d E hd6 hE p e R s m args below meth c Q ad0 hx hb hml hname hown hts hXs hA hRf0 hR0 hRl hRc hRs => ?_⟩
  have hRf := hRf0.imp_right And.right
  have hR1 : 1 ≤ R.frames := hR0.resolve_left (by decide)
  have S : CallFix p m c cX25_aWord 4 s args ev_W RX25 := ⟨hx, hb, hml, hown, fun w hw => hts w (List.mem_cons_of_mem _ hw)⟩
  have K := fun (pc : Nat) (x : ev_I ⊕ Nat) => ev_code_at (P := fun pc f => ev_Sim p l e R s m args below meth c Q 4 D ev_cl A s.heap ex ad0 ev_ty pc f) (K := fun pc k => ev_stop k cX25_aWord pc none) (t := [ev_r125_0 E, ev_r125_1 E, ev_r125_2 E, ev_r125_3 E, ev_r125_4 E, ev_r125_5 E, ev_r125_6 E, ev_r125_7 E, ev_r125_8 E, ev_r125_9 E, ev_r125_10 E, ev_r125_11 E, ev_r125_12 E, [], ev_r125_14 E]) ⟨ev_h125_0 hRf hR1 hRl hRc hRs hE hXs hA S hname, ⟨ev_h125_1 hRf hR1 hRl hRc hRs hE hXs hA S hname, ⟨ev_h125_2 hRf hR1 hRl hRc hRs hE hXs hA S hname, ⟨ev_h125_3 hRf hR1 hRl hRc hRs hE hXs hA S hname, ⟨ev_h125_4 hRf hR1 hRl hRc hRs hE hXs hA S hname, ⟨ev_h125_5 hRf hR1 hRl hRc hRs hE hXs hA S hname, ⟨ev_h125_6 hRf hR1 hRl hRc hRs hE hXs hA S hname, ⟨ev_h125_7 hRf hR1 hRl hRc hRs hE hXs hA S hname, ⟨ev_h125_8 hRf hR1 hRl hRc hRs hE hXs hA S hname, ⟨ev_h125_9 hRf hR1 hRl hRc hRs hE hXs hA S hname, ⟨ev_h125_10 hRf hR1 hRl hRc hRs hE hXs hA S hname, ⟨ev_h125_11 hRf hR1 hRl hRc hRs hE hXs hA S hname, ⟨ev_h125_12 hRf hR1 hRl hRc hRs hE hXs hA S hname, ⟨ev_pz, ⟨ev_h125_14 hRf hR1 hRl hRc hRs hE hXs hA S hname, trivial⟩⟩⟩⟩⟩⟩⟩⟩⟩⟩⟩⟩⟩⟩⟩ (pc := pc) (x := x)
  exact ⟨fun pc f hf => K pc _ hf, fun pc k hk => K pc _ hk⟩
theorem ev_t126 {l : Launch} {D : va_G} {A : Nat → Prop} {ex : Nat → Value} : k_TbQ l D ev_cl A ex ev_ty (ev_XT A ex) ev_y ev_b ev_nL ev_ret ev_ws ev_cm ev_sm 0 150 126 ev_m126 := by
  refine Or.inr ⟨by decide +kernel, ⟨ev_W, Or.inl rfl⟩, fun d E hd6 hE p e R s m args below meth c Q ad0 hx hb hml hname hown hts hXs hA hRf0 hR0 hRl hRc hRs => ?_⟩
  have hRf := hRf0.imp_right And.right
  have hR1 : 1 ≤ R.frames := hR0.resolve_left (by decide)
  have S : CallFix p m c cX25_aliases 7 s args ev_W RX25 := ⟨hx, hb, hml, hown, fun w hw => hts w (List.mem_cons_of_mem _ hw)⟩
  have K := fun (pc : Nat) (x : ev_I ⊕ Nat) => ev_code_at (P := fun pc f => ev_Sim p l e R s m args below meth c Q 7 D ev_cl A s.heap ex ad0 ev_ty pc f) (K := fun pc k => ev_stop k cX25_aliases pc none) (t := [ev_r126_0 E, ev_r126_1 E, ev_r126_2 E, ev_r126_3 E, ev_r126_4 E, ev_r126_5 E, ev_r126_6 E, ev_r126_7 E, ev_r126_8 E, ev_r126_9 E, ev_r126_10 E, ev_r126_11 E, ev_r126_12 E]) ⟨ev_h126_0 hRf hR1 hRl hRc hRs hE hXs hA S hname, ⟨ev_h126_1 hRf hR1 hRl hRc hRs hE hXs hA S hname, ⟨ev_h126_2 hRf hR1 hRl hRc hRs hE hXs hA S hname, ⟨ev_h126_3 hRf hR1 hRl hRc hRs hE hXs hA S hname, ⟨ev_h126_4 hRf hR1 hRl hRc hRs hE hXs hA S hname, ⟨ev_h126_5 hRf hR1 hRl hRc hRs hE hXs hA S hname, ⟨ev_h126_6 hRf hR1 hRl hRc hRs hE hXs hA S hname, ⟨ev_h126_7 hRf hR1 hRl hRc hRs hE hXs hA S hname, ⟨ev_h126_8 hRf hR1 hRl hRc hRs hE hXs hA S hname, ⟨ev_h126_9 hRf hR1 hRl hRc hRs hE hXs hA S hname, ⟨ev_h126_10 hRf hR1 hRl hRc hRs hE hXs hA S hname, ⟨ev_h126_11 hRf hR1 hRl hRc hRs hE hXs hA S hname, ⟨ev_h126_12 hRf hR1 hRl hRc hRs hE hXs hA S hname, trivial⟩⟩⟩⟩⟩⟩⟩⟩⟩⟩⟩⟩⟩ (pc := pc) (x := x)
  exact ⟨fun pc f hf => K pc _ hf, fun pc k hk => K pc _ hk⟩
theorem ev_t127 {l : Launch} {D : va_G} {A : Nat → Prop} {ex : Nat → Value} : k_TbQ l D ev_cl A ex ev_ty (ev_XT A ex) ev_y ev_b ev_nL ev_ret ev_ws ev_cm ev_sm 0 150 127 ev_m127 := by
  refine Or.inr ⟨by decide +kernel, ⟨ev_W, Or.inl rfl⟩, fun d E hd6 hE p e R s m args below meth c Q ad0 hx hb hml hname hown hts hXs hA hRf0 hR0 hRl hRc hRs => ?_⟩
  have hRf := hRf0.imp_right And.right
  have hR1 : 1 ≤ R.frames := hR0.resolve_left (by decide)
  have S : CallFix p m c cX25_begins 2 s args ev_W RX25 := ⟨hx, hb, hml, hown, fun w hw => hts w (List.mem_cons_of_mem _ hw)⟩
  have K := fun (pc : Nat) (x : ev_I ⊕ Nat) => ev_code_at (P := fun pc f => ev_Sim p l e R s m args below meth c Q 2 D ev_cl A s.heap ex ad0 ev_ty pc f) (K := fun pc k => ev_stop k cX25_begins pc (some .boolean)) (t := [ev_r127_0 E, ev_r127_1 E, ev_r127_2 E, ev_r127_3 E, ev_r127_4 E]) ⟨ev_h127_0 hRf hR1 hRl hRc hRs hE hXs hA S hname, ⟨ev_h127_1 hRf hR1 hRl hRc hRs hE hXs hA S hname, ⟨ev_h127_2 hRf hR1 hRl hRc hRs hE hXs hA S hname, ⟨ev_h127_3 hRf hR1 hRl hRc hRs hE hXs hA S hname, ⟨ev_h127_4 hRf hR1 hRl hRc hRs hE hXs hA S hname, trivial⟩⟩⟩⟩⟩ (pc := pc) (x := x)
  exact ⟨fun pc f hf => K pc _ hf, fun pc k hk => K pc _ hk⟩
theorem ev_t128 {l : Launch} {D : va_G} {A : Nat → Prop} {ex : Nat → Value} : k_TbQ l D ev_cl A ex ev_ty (ev_XT A ex) ev_y ev_b ev_nL ev_ret ev_ws ev_cm ev_sm 0 150 128 ev_m128 := by
  refine Or.inr ⟨by decide +kernel, ⟨ev_W, Or.inl rfl⟩, fun d E hd6 hE p e R s m args below meth c Q ad0 hx hb hml hname hown hts hXs hA hRf0 hR0 hRl hRc hRs => ?_⟩
  have hRf := hRf0.imp_right And.right
  have hR1 : 1 ≤ R.frames := hR0.resolve_left (by decide)
  have S : CallFix p m c cX25_closes 2 s args ev_W RX25 := ⟨hx, hb, hml, hown, fun w hw => hts w (List.mem_cons_of_mem _ hw)⟩
  have K := fun (pc : Nat) (x : ev_I ⊕ Nat) => ev_code_at (P := fun pc f => ev_Sim p l e R s m args below meth c Q 2 D ev_cl A s.heap ex ad0 ev_ty pc f) (K := fun pc k => ev_stop k cX25_closes pc (some .boolean)) (t := [ev_r128_0 E, ev_r128_1 E, ev_r128_2 E, ev_r128_3 E, ev_r128_4 E, ev_r128_5 E]) ⟨ev_h128_0 hRf hR1 hRl hRc hRs hE hXs hA S hname, ⟨ev_h128_1 hRf hR1 hRl hRc hRs hE hXs hA S hname, ⟨ev_h128_2 hRf hR1 hRl hRc hRs hE hXs hA S hname, ⟨ev_h128_3 hRf hR1 hRl hRc hRs hE hXs hA S hname, ⟨ev_h128_4 hRf hR1 hRl hRc hRs hE hXs hA S hname, ⟨ev_h128_5 hRf hR1 hRl hRc hRs hE hXs hA S hname, trivial⟩⟩⟩⟩⟩⟩ (pc := pc) (x := x)
  exact ⟨fun pc f hf => K pc _ hf, fun pc k hk => K pc _ hk⟩
theorem ev_t129 {l : Launch} {D : va_G} {A : Nat → Prop} {ex : Nat → Value} : k_TbQ l D ev_cl A ex ev_ty (ev_XT A ex) ev_y ev_b ev_nL ev_ret ev_ws ev_cm ev_sm 0 150 129 ev_m129 := by
  refine Or.inr ⟨by decide +kernel, ⟨ev_W, Or.inl rfl⟩, fun d E hd6 hE p e R s m args below meth c Q ad0 hx hb hml hname hown hts hXs hA hRf0 hR0 hRl hRc hRs => ?_⟩
  have hRf := hRf0.imp_right And.right
  have hR1 : 1 ≤ R.frames := hR0.resolve_left (by decide)
  have S : CallFix p m c cX25_ends 2 s args ev_W RX25 := ⟨hx, hb, hml, hown, fun w hw => hts w (List.mem_cons_of_mem _ hw)⟩
  have K := fun (pc : Nat) (x : ev_I ⊕ Nat) => ev_code_at (P := fun pc f => ev_Sim p l e R s m args below meth c Q 2 D ev_cl A s.heap ex ad0 ev_ty pc f) (K := fun pc k => ev_stop k cX25_ends pc (some .boolean)) (t := [ev_r129_0 E, ev_r129_1 E, ev_r129_2 E, ev_r129_3 E, ev_r129_4 E]) ⟨ev_h129_0 hRf hR1 hRl hRc hRs hE hXs hA S hname, ⟨ev_h129_1 hRf hR1 hRl hRc hRs hE hXs hA S hname, ⟨ev_h129_2 hRf hR1 hRl hRc hRs hE hXs hA S hname, ⟨ev_h129_3 hRf hR1 hRl hRc hRs hE hXs hA S hname, ⟨ev_h129_4 hRf hR1 hRl hRc hRs hE hXs hA S hname, trivial⟩⟩⟩⟩⟩ (pc := pc) (x := x)
  exact ⟨fun pc f hf => K pc _ hf, fun pc k hk => K pc _ hk⟩
theorem ev_t130 {l : Launch} {D : va_G} {A : Nat → Prop} {ex : Nat → Value} : k_TbQ l D ev_cl A ex ev_ty (ev_XT A ex) ev_y ev_b ev_nL ev_ret ev_ws ev_cm ev_sm 0 150 130 ev_m130 := by
  refine Or.inr ⟨by decide +kernel, ⟨ev_W, Or.inl rfl⟩, fun d E hd6 hE p e R s m args below meth c Q ad0 hx hb hml hname hown hts hXs hA hRf0 hR0 hRl hRc hRs => ?_⟩
  have hRf := hRf0.imp_right And.right
  have hR1 : 1 ≤ R.frames := hR0.resolve_left (by decide)
  have S : CallFix p m c cX25_flushed 4 s args ev_W RX25 := ⟨hx, hb, hml, hown, fun w hw => hts w (List.mem_cons_of_mem _ hw)⟩
  have K := fun (pc : Nat) (x : ev_I ⊕ Nat) => ev_code_at (P := fun pc f => ev_Sim p l e R s m args below meth c Q 4 D ev_cl A s.heap ex ad0 ev_ty pc f) (K := fun pc k => ev_stop k cX25_flushed pc (some (.object "TextShellModel$Part"))) (t := [ev_r130_0 E, ev_r130_1 E, ev_r130_2 E, ev_r130_3 E]) ⟨ev_h130_0 hRf hR1 hRl hRc hRs hE hXs hA S hname, ⟨ev_h130_1 hRf hR1 hRl hRc hRs hE hXs hA S hname, ⟨ev_h130_2 hRf hR1 hRl hRc hRs hE hXs hA S hname, ⟨ev_h130_3 hRf hR1 hRl hRc hRs hE hXs hA S hname, trivial⟩⟩⟩⟩ (pc := pc) (x := x)
  exact ⟨fun pc f hf => K pc _ hf, fun pc k hk => K pc _ hk⟩
theorem ev_t131 {l : Launch} {D : va_G} {A : Nat → Prop} {ex : Nat → Value} : k_TbQ l D ev_cl A ex ev_ty (ev_XT A ex) ev_y ev_b ev_nL ev_ret ev_ws ev_cm ev_sm 0 150 131 ev_m131 := by
  refine Or.inr ⟨by decide +kernel, ⟨ev_W, Or.inl rfl⟩, fun d E hd6 hE p e R s m args below meth c Q ad0 hx hb hml hname hown hts hXs hA hRf0 hR0 hRl hRc hRs => ?_⟩
  have hRf := hRf0.imp_right And.right
  have hR1 : 1 ≤ R.frames := hR0.resolve_left (by decide)
  have S : CallFix p m c cX25_isBlank 2 s args ev_W RX25 := ⟨hx, hb, hml, hown, fun w hw => hts w (List.mem_cons_of_mem _ hw)⟩
  have K := fun (pc : Nat) (x : ev_I ⊕ Nat) => ev_code_at (P := fun pc f => ev_Sim p l e R s m args below meth c Q 2 D ev_cl A s.heap ex ad0 ev_ty pc f) (K := fun pc k => ev_stop k cX25_isBlank pc (some .boolean)) (t := [ev_r131_0 E, ev_r131_1 E]) ⟨ev_h131_0 hRf hR1 hRl hRc hRs hE hXs hA S hname, ⟨ev_h131_1 hRf hR1 hRl hRc hRs hE hXs hA S hname, trivial⟩⟩ (pc := pc) (x := x)
  exact ⟨fun pc f hf => K pc _ hf, fun pc k hk => K pc _ hk⟩
theorem ev_t132 {l : Launch} {D : va_G} {A : Nat → Prop} {ex : Nat → Value} : k_TbQ l D ev_cl A ex ev_ty (ev_XT A ex) ev_y ev_b ev_nL ev_ret ev_ws ev_cm ev_sm 0 150 132 ev_m132 := by
  refine Or.inr ⟨by decide +kernel, ⟨ev_W, Or.inl rfl⟩, fun d E hd6 hE p e R s m args below meth c Q ad0 hx hb hml hname hown hts hXs hA hRf0 hR0 hRl hRc hRs => ?_⟩
  have hRf := hRf0.imp_right And.right
  have hR1 : 1 ≤ R.frames := hR0.resolve_left (by decide)
  have S : CallFix p m c cX25_isFree 5 s args ev_W RX25 := ⟨hx, hb, hml, hown, fun w hw => hts w (List.mem_cons_of_mem _ hw)⟩
  have K := fun (pc : Nat) (x : ev_I ⊕ Nat) => ev_code_at (P := fun pc f => ev_Sim p l e R s m args below meth c Q 5 D ev_cl A s.heap ex ad0 ev_ty pc f) (K := fun pc k => ev_stop k cX25_isFree pc (some .boolean)) (t := [ev_r132_0 E, ev_r132_1 E, ev_r132_2 E, ev_r132_3 E, ev_r132_4 E]) ⟨ev_h132_0 hRf hR1 hRl hRc hRs hE hXs hA S hname, ⟨ev_h132_1 hRf hR1 hRl hRc hRs hE hXs hA S hname, ⟨ev_h132_2 hRf hR1 hRl hRc hRs hE hXs hA S hname, ⟨ev_h132_3 hRf hR1 hRl hRc hRs hE hXs hA S hname, ⟨ev_h132_4 hRf hR1 hRl hRc hRs hE hXs hA S hname, trivial⟩⟩⟩⟩⟩ (pc := pc) (x := x)
  exact ⟨fun pc f hf => K pc _ hf, fun pc k hk => K pc _ hk⟩
theorem ev_t133 {l : Launch} {D : va_G} {A : Nat → Prop} {ex : Nat → Value} : k_TbQ l D ev_cl A ex ev_ty (ev_XT A ex) ev_y ev_b ev_nL ev_ret ev_ws ev_cm ev_sm 0 150 133 ev_m133 := by
  refine Or.inr ⟨by decide +kernel, ⟨ev_W, Or.inl rfl⟩, fun d E hd6 hE p e R s m args below meth c Q ad0 hx hb hml hname hown hts hXs hA hRf0 hR0 hRl hRc hRs => ?_⟩
  have hRf := hRf0.imp_right And.right
  have hR1 : 1 ≤ R.frames := hR0.resolve_left (by decide)
  have S : CallFix p m c cX25_isReserved 2 s args ev_W RX25 := ⟨hx, hb, hml, hown, fun w hw => hts w (List.mem_cons_of_mem _ hw)⟩
  have K := fun (pc : Nat) (x : ev_I ⊕ Nat) => ev_code_at (P := fun pc f => ev_Sim p l e R s m args below meth c Q 2 D ev_cl A s.heap ex ad0 ev_ty pc f) (K := fun pc k => ev_stop k cX25_isReserved pc (some .boolean)) (t := [ev_r133_0 E, ev_r133_1 E, ev_r133_2 E, ev_r133_3 E]) ⟨ev_h133_0 hRf hR1 hRl hRc hRs hE hXs hA S hname, ⟨ev_h133_1 hRf hR1 hRl hRc hRs hE hXs hA S hname, ⟨ev_h133_2 hRf hR1 hRl hRc hRs hE hXs hA S hname, ⟨ev_h133_3 hRf hR1 hRl hRc hRs hE hXs hA S hname, trivial⟩⟩⟩⟩ (pc := pc) (x := x)
  exact ⟨fun pc f hf => K pc _ hf, fun pc k hk => K pc _ hk⟩
theorem ev_t134 {l : Launch} {D : va_G} {A : Nat → Prop} {ex : Nat → Value} : k_TbQ l D ev_cl A ex ev_ty (ev_XT A ex) ev_y ev_b ev_nL ev_ret ev_ws ev_cm ev_sm 0 150 134 ev_m134 := by
  refine Or.inr ⟨by decide +kernel, ⟨ev_W, Or.inl rfl⟩, fun d E hd6 hE p e R s m args below meth c Q ad0 hx hb hml hname hown hts hXs hA hRf0 hR0 hRl hRc hRs => ?_⟩
  have hRf := hRf0.imp_right And.right
  have hR1 : 1 ≤ R.frames := hR0.resolve_left (by decide)
  have S : CallFix p m c cX25_line 1 s args ev_W RX25 := ⟨hx, hb, hml, hown, fun w hw => hts w (List.mem_cons_of_mem _ hw)⟩
  have K := fun (pc : Nat) (x : ev_I ⊕ Nat) => ev_code_at (P := fun pc f => ev_Sim p l e R s m args below meth c Q 1 D ev_cl A s.heap ex ad0 ev_ty pc f) (K := fun pc k => ev_stop k cX25_line pc (some .int)) (t := [ev_r134_0 E, ev_r134_1 E, [], ev_r134_3 E]) ⟨ev_h134_0 hRf hR1 hRl hRc hRs hE hXs hA S hname, ⟨ev_h134_1 hRf hR1 hRl hRc hRs hE hXs hA S hname, ⟨ev_pz, ⟨ev_h134_3 hRf hR1 hRl hRc hRs hE hXs hA S hname, trivial⟩⟩⟩⟩ (pc := pc) (x := x)
  exact ⟨fun pc f hf => K pc _ hf, fun pc k hk => K pc _ hk⟩
theorem ev_t135 {l : Launch} {D : va_G} {A : Nat → Prop} {ex : Nat → Value} : k_TbQ l D ev_cl A ex ev_ty (ev_XT A ex) ev_y ev_b ev_nL ev_ret ev_ws ev_cm ev_sm 0 150 135 ev_m135 := by
  refine Or.inr ⟨by decide +kernel, ⟨ev_W, Or.inl rfl⟩, fun d E hd6 hE p e R s m args below meth c Q ad0 hx hb hml hname hown hts hXs hA hRf0 hR0 hRl hRc hRs => ?_⟩
  have hRf := hRf0.imp_right And.right
  have hR1 : 1 ≤ R.frames := hR0.resolve_left (by decide)
  have S : CallFix p m c cX25_linked 3 s args ev_W RX25 := ⟨hx, hb, hml, hown, fun w hw => hts w (List.mem_cons_of_mem _ hw)⟩
  have K := fun (pc : Nat) (x : ev_I ⊕ Nat) => ev_code_at (P := fun pc f => ev_Sim p l e R s m args below meth c Q 3 D ev_cl A s.heap ex ad0 ev_ty pc f) (K := fun pc k => ev_stop k cX25_linked pc (some (.object "TextShellModel$Part"))) (t := [ev_r135_0 E]) ⟨ev_h135_0 hRf hR1 hRl hRc hRs hE hXs hA S hname, trivial⟩ (pc := pc) (x := x)
  exact ⟨fun pc f hf => K pc _ hf, fun pc k hk => K pc _ hk⟩
theorem ev_t136 {l : Launch} {D : va_G} {A : Nat → Prop} {ex : Nat → Value} : k_TbQ l D ev_cl A ex ev_ty (ev_XT A ex) ev_y ev_b ev_nL ev_ret ev_ws ev_cm ev_sm 0 150 136 ev_m136 := by
  refine Or.inr ⟨by decide +kernel, ⟨ev_W, Or.inl rfl⟩, fun d E hd6 hE p e R s m args below meth c Q ad0 hx hb hml hname hown hts hXs hA hRf0 hR0 hRl hRc hRs => ?_⟩
  have hRf := hRf0.imp_right And.right
  have hR1 : 1 ≤ R.frames := hR0.resolve_left (by decide)
  have S : CallFix p m c cX25_look 1 s args ev_W RX25 := ⟨hx, hb, hml, hown, fun w hw => hts w (List.mem_cons_of_mem _ hw)⟩
  have K := fun (pc : Nat) (x : ev_I ⊕ Nat) => ev_code_at (P := fun pc f => ev_Sim p l e R s m args below meth c Q 1 D ev_cl A s.heap ex ad0 ev_ty pc f) (K := fun pc k => ev_stop k cX25_look pc (some .int)) (t := [ev_r136_0 E, ev_r136_1 E, ev_r136_2 E, [], [], ev_r136_5 E, ev_r136_6 E, ev_r136_7 E]) ⟨ev_h136_0 hRf hR1 hRl hRc hRs hE hXs hA S hname, ⟨ev_h136_1 hRf hR1 hRl hRc hRs hE hXs hA S hname, ⟨ev_h136_2 hRf hR1 hRl hRc hRs hE hXs hA S hname, ⟨ev_pz, ⟨ev_pz, ⟨ev_h136_5 hRf hR1 hRl hRc hRs hE hXs hA S hname, ⟨ev_h136_6 hRf hR1 hRl hRc hRs hE hXs hA S hname, ⟨ev_h136_7 hRf hR1 hRl hRc hRs hE hXs hA S hname, trivial⟩⟩⟩⟩⟩⟩⟩⟩ (pc := pc) (x := x)
  exact ⟨fun pc f hf => K pc _ hf, fun pc k hk => K pc _ hk⟩
theorem ev_t137 {l : Launch} {D : va_G} {A : Nat → Prop} {ex : Nat → Value} : k_TbQ l D ev_cl A ex ev_ty (ev_XT A ex) ev_y ev_b ev_nL ev_ret ev_ws ev_cm ev_sm 0 150 137 ev_m137 := by
  refine Or.inr ⟨by decide +kernel, ⟨ev_W, Or.inl rfl⟩, fun d E hd6 hE p e R s m args below meth c Q ad0 hx hb hml hname hown hts hXs hA hRf0 hR0 hRl hRc hRs => ?_⟩
  have hRf := hRf0.imp_right And.right
  have hR1 : 1 ≤ R.frames := hR0.resolve_left (by decide)
  have S : CallFix p m c cX25_made 3 s args ev_W RX25 := ⟨hx, hb, hml, hown, fun w hw => hts w (List.mem_cons_of_mem _ hw)⟩
  have K := fun (pc : Nat) (x : ev_I ⊕ Nat) => ev_code_at (P := fun pc f => ev_Sim p l e R s m args below meth c Q 3 D ev_cl A s.heap ex ad0 ev_ty pc f) (K := fun pc k => ev_stop k cX25_made pc (some (.object "TextShellModel$Part"))) (t := [ev_r137_0 E]) ⟨ev_h137_0 hRf hR1 hRl hRc hRs hE hXs hA S hname, trivial⟩ (pc := pc) (x := x)
  exact ⟨fun pc f hf => K pc _ hf, fun pc k hk => K pc _ hk⟩
theorem ev_t138 {l : Launch} {D : va_G} {A : Nat → Prop} {ex : Nat → Value} : k_TbQ l D ev_cl A ex ev_ty (ev_XT A ex) ev_y ev_b ev_nL ev_ret ev_ws ev_cm ev_sm 0 150 138 ev_m138 := by
  refine Or.inr ⟨by decide +kernel, ⟨ev_W, Or.inl rfl⟩, fun d E hd6 hE p e R s m args below meth c Q ad0 hx hb hml hname hown hts hXs hA hRf0 hR0 hRl hRc hRs => ?_⟩
  have hRf := hRf0.imp_right And.right
  have hR1 : 1 ≤ R.frames := hR0.resolve_left (by decide)
  have S : CallFix p m c cX25_next 2 s args ev_W RX25 := ⟨hx, hb, hml, hown, fun w hw => hts w (List.mem_cons_of_mem _ hw)⟩
  have K := fun (pc : Nat) (x : ev_I ⊕ Nat) => ev_code_at (P := fun pc f => ev_Sim p l e R s m args below meth c Q 2 D ev_cl A s.heap ex ad0 ev_ty pc f) (K := fun pc k => ev_stop k cX25_next pc none) (t := [ev_r138_0 E, ev_r138_1 E, ev_r138_2 E, ev_r138_3 E, ev_r138_4 E, ev_r138_5 E, ev_r138_6 E, ev_r138_7 E, [], [], ev_r138_10 E, ev_r138_11 E, ev_r138_12 E, ev_r138_13 E, ev_r138_14 E, ev_r138_15 E, ev_r138_16 E, ev_r138_17 E, ev_r138_18 E, ev_r138_19 E, ev_r138_20 E, ev_r138_21 E]) ⟨ev_h138_0 hRf hR1 hRl hRc hRs hE hXs hA S hname, ⟨ev_h138_1 hRf hR1 hRl hRc hRs hE hXs hA S hname, ⟨ev_h138_2 hRf hR1 hRl hRc hRs hE hXs hA S hname, ⟨ev_h138_3 hRf hR1 hRl hRc hRs hE hXs hA S hname, ⟨ev_h138_4 hRf hR1 hRl hRc hRs hE hXs hA S hname, ⟨ev_h138_5 hRf hR1 hRl hRc hRs hE hXs hA S hname, ⟨ev_h138_6 hRf hR1 hRl hRc hRs hE hXs hA S hname, ⟨ev_h138_7 hRf hR1 hRl hRc hRs hE hXs hA S hname, ⟨ev_pz, ⟨ev_pz, ⟨ev_h138_10 hRf hR1 hRl hRc hRs hE hXs hA S hname, ⟨ev_h138_11 hRf hR1 hRl hRc hRs hE hXs hA S hname, ⟨ev_h138_12 hRf hR1 hRl hRc hRs hE hXs hA S hname, ⟨ev_h138_13 hRf hR1 hRl hRc hRs hE hXs hA S hname, ⟨ev_h138_14 hRf hR1 hRl hRc hRs hE hXs hA S hname, ⟨ev_h138_15 hRf hR1 hRl hRc hRs hE hXs hA S hname, ⟨ev_h138_16 hRf hR1 hRl hRc hRs hE hXs hA S hname, ⟨ev_h138_17 hRf hR1 hRl hRc hRs hE hXs hA S hname, ⟨ev_h138_18 hRf hR1 hRl hRc hRs hE hXs hA S hname, ⟨ev_h138_19 hRf hR1 hRl hRc hRs hE hXs hA S hname, ⟨ev_h138_20 hRf hR1 hRl hRc hRs hE hXs hA S hname, ⟨ev_h138_21 hRf hR1 hRl hRc hRs hE hXs hA S hname, trivial⟩⟩⟩⟩⟩⟩⟩⟩⟩⟩⟩⟩⟩⟩⟩⟩⟩⟩⟩⟩⟩⟩ (pc := pc) (x := x)
  exact ⟨fun pc f hf => K pc _ hf, fun pc k hk => K pc _ hk⟩
theorem ev_t139 {l : Launch} {D : va_G} {A : Nat → Prop} {ex : Nat → Value} : k_TbQ l D ev_cl A ex ev_ty (ev_XT A ex) ev_y ev_b ev_nL ev_ret ev_ws ev_cm ev_sm 0 150 139 ev_m139 := by
  refine Or.inr ⟨by decide +kernel, ⟨ev_W, Or.inl rfl⟩, fun d E hd6 hE p e R s m args below meth c Q ad0 hx hb hml hname hown hts hXs hA hRf0 hR0 hRl hRc hRs => ?_⟩
  have hRf := hRf0.imp_right And.right
  have hR1 : 1 ≤ R.frames := hR0.resolve_left (by decide)
  have S : CallFix p m c cX25_parts 11 s args ev_W RX25 := ⟨hx, hb, hml, hown, fun w hw => hts w (List.mem_cons_of_mem _ hw)⟩
  have K := fun (pc : Nat) (x : ev_I ⊕ Nat) => ev_code_at (P := fun pc f => ev_Sim p l e R s m args below meth c Q 11 D ev_cl A s.heap ex ad0 ev_ty pc f) (K := fun pc k => ev_stop k cX25_parts pc (some (.object "TextShellModel$Part"))) (t := [ev_r139_0 E, ev_r139_1 E, ev_r139_2 E, ev_r139_3 E, ev_r139_4 E, ev_r139_5 E, ev_r139_6 E, ev_r139_7 E, [], [], ev_r139_10 E, ev_r139_11 E, ev_r139_12 E, ev_r139_13 E, ev_r139_14 E, ev_r139_15 E, ev_r139_16 E, ev_r139_17 E, ev_r139_18 E, ev_r139_19 E, ev_r139_20 E, [], [], ev_r139_23 E, ev_r139_24 E, [], ev_r139_26 E, ev_r139_27 E, [], [], ev_r139_30 E, ev_r139_31 E, ev_r139_32 E, ev_r139_33 E, ev_r139_34 E, ev_r139_35 E]) ⟨ev_h139_0 hRf hR1 hRl hRc hRs hE hXs hA S hname, ⟨ev_h139_1 hRf hR1 hRl hRc hRs hE hXs hA S hname, ⟨ev_h139_2 hRf hR1 hRl hRc hRs hE hXs hA S hname, ⟨ev_h139_3 hRf hR1 hRl hRc hRs hE hXs hA S hname, ⟨ev_h139_4 hRf hR1 hRl hRc hRs hE hXs hA S hname, ⟨ev_h139_5 hRf hR1 hRl hRc hRs hE hXs hA S hname, ⟨ev_h139_6 hRf hR1 hRl hRc hRs hE hXs hA S hname, ⟨ev_h139_7 hRf hR1 hRl hRc hRs hE hXs hA S hname, ⟨ev_pz, ⟨ev_pz, ⟨ev_h139_10 hRf hR1 hRl hRc hRs hE hXs hA S hname, ⟨ev_h139_11 hRf hR1 hRl hRc hRs hE hXs hA S hname, ⟨ev_h139_12 hRf hR1 hRl hRc hRs hE hXs hA S hname, ⟨ev_h139_13 hRf hR1 hRl hRc hRs hE hXs hA S hname, ⟨ev_h139_14 hRf hR1 hRl hRc hRs hE hXs hA S hname, ⟨ev_h139_15 hRf hR1 hRl hRc hRs hE hXs hA S hname, ⟨ev_h139_16 hRf hR1 hRl hRc hRs hE hXs hA S hname, ⟨ev_h139_17 hRf hR1 hRl hRc hRs hE hXs hA S hname, ⟨ev_h139_18 hRf hR1 hRl hRc hRs hE hXs hA S hname, ⟨ev_h139_19 hRf hR1 hRl hRc hRs hE hXs hA S hname, ⟨ev_h139_20 hRf hR1 hRl hRc hRs hE hXs hA S hname, ⟨ev_pz, ⟨ev_pz, ⟨ev_h139_23 hRf hR1 hRl hRc hRs hE hXs hA S hname, ⟨ev_h139_24 hRf hR1 hRl hRc hRs hE hXs hA S hname, ⟨ev_pz, ⟨ev_h139_26 hRf hR1 hRl hRc hRs hE hXs hA S hname, ⟨ev_h139_27 hRf hR1 hRl hRc hRs hE hXs hA S hname, ⟨ev_pz, ⟨ev_pz, ⟨ev_h139_30 hRf hR1 hRl hRc hRs hE hXs hA S hname, ⟨ev_h139_31 hRf hR1 hRl hRc hRs hE hXs hA S hname, ⟨ev_h139_32 hRf hR1 hRl hRc hRs hE hXs hA S hname, ⟨ev_h139_33 hRf hR1 hRl hRc hRs hE hXs hA S hname, ⟨ev_h139_34 hRf hR1 hRl hRc hRs hE hXs hA S hname, ⟨ev_h139_35 hRf hR1 hRl hRc hRs hE hXs hA S hname, trivial⟩⟩⟩⟩⟩⟩⟩⟩⟩⟩⟩⟩⟩⟩⟩⟩⟩⟩⟩⟩⟩⟩⟩⟩⟩⟩⟩⟩⟩⟩⟩⟩⟩⟩⟩⟩ (pc := pc) (x := x)
  exact ⟨fun pc f hf => K pc _ hf, fun pc k hk => K pc _ hk⟩
theorem ev_t140 {l : Launch} {D : va_G} {A : Nat → Prop} {ex : Nat → Value} : k_TbQ l D ev_cl A ex ev_ty (ev_XT A ex) ev_y ev_b ev_nL ev_ret ev_ws ev_cm ev_sm 0 150 140 ev_m140 := by
  refine Or.inr ⟨by decide +kernel, ⟨ev_W, Or.inl rfl⟩, fun d E hd6 hE p e R s m args below meth c Q ad0 hx hb hml hname hown hts hXs hA hRf0 hR0 hRl hRc hRs => ?_⟩
  have hRf := hRf0.imp_right And.right
  have hR1 : 1 ≤ R.frames := hR0.resolve_left (by decide)
  have S : CallFix p m c cX25_plain 1 s args ev_W RX25 := ⟨hx, hb, hml, hown, fun w hw => hts w (List.mem_cons_of_mem _ hw)⟩
  have K := fun (pc : Nat) (x : ev_I ⊕ Nat) => ev_code_at (P := fun pc f => ev_Sim p l e R s m args below meth c Q 1 D ev_cl A s.heap ex ad0 ev_ty pc f) (K := fun pc k => ev_stop k cX25_plain pc (some (.array .byte))) (t := [ev_r140_0 E, ev_r140_1 E, ev_r140_2 E, ev_r140_3 E]) ⟨ev_h140_0 hRf hR1 hRl hRc hRs hE hXs hA S hname, ⟨ev_h140_1 hRf hR1 hRl hRc hRs hE hXs hA S hname, ⟨ev_h140_2 hRf hR1 hRl hRc hRs hE hXs hA S hname, ⟨ev_h140_3 hRf hR1 hRl hRc hRs hE hXs hA S hname, trivial⟩⟩⟩⟩ (pc := pc) (x := x)
  exact ⟨fun pc f hf => K pc _ hf, fun pc k hk => K pc _ hk⟩
theorem ev_t141 {l : Launch} {D : va_G} {A : Nat → Prop} {ex : Nat → Value} : k_TbQ l D ev_cl A ex ev_ty (ev_XT A ex) ev_y ev_b ev_nL ev_ret ev_ws ev_cm ev_sm 0 150 141 ev_m141 := by
  refine Or.inr ⟨by decide +kernel, ⟨ev_W, Or.inl rfl⟩, fun d E hd6 hE p e R s m args below meth c Q ad0 hx hb hml hname hown hts hXs hA hRf0 hR0 hRl hRc hRs => ?_⟩
  have hRf := hRf0.imp_right And.right
  have hR1 : 1 ≤ R.frames := hR0.resolve_left (by decide)
  have S : CallFix p m c cX25_script 2 s args ev_W RX25 := ⟨hx, hb, hml, hown, fun w hw => hts w (List.mem_cons_of_mem _ hw)⟩
  have K := fun (pc : Nat) (x : ev_I ⊕ Nat) => ev_code_at (P := fun pc f => ev_Sim p l e R s m args below meth c Q 2 D ev_cl A s.heap ex ad0 ev_ty pc f) (K := fun pc k => ev_stop k cX25_script pc (some (.object "TextShellModel$AndOr"))) (t := [ev_r141_0 E]) ⟨ev_h141_0 hRf hR1 hRl hRc hRs hE hXs hA S hname, trivial⟩ (pc := pc) (x := x)
  exact ⟨fun pc f hf => K pc _ hf, fun pc k hk => K pc _ hk⟩
theorem ev_t142 {l : Launch} {D : va_G} {A : Nat → Prop} {ex : Nat → Value} : k_TbQ l D ev_cl A ex ev_ty (ev_XT A ex) ev_y ev_b ev_nL ev_ret ev_ws ev_cm ev_sm 0 150 142 ev_m142 := by
  refine Or.inr ⟨by decide +kernel, ⟨ev_W, Or.inl rfl⟩, fun d E hd6 hE p e R s m args below meth c Q ad0 hx hb hml hname hown hts hXs hA hRf0 hR0 hRl hRc hRs => ?_⟩
  have hRf := hRf0.imp_right And.right
  have hR1 : 1 ≤ R.frames := hR0.resolve_left (by decide)
  have S : CallFix p m c cX25_settle 1 s args ev_W RX25 := ⟨hx, hb, hml, hown, fun w hw => hts w (List.mem_cons_of_mem _ hw)⟩
  have K := fun (pc : Nat) (x : ev_I ⊕ Nat) => ev_code_at (P := fun pc f => ev_Sim p l e R s m args below meth c Q 1 D ev_cl A s.heap ex ad0 ev_ty pc f) (K := fun pc k => ev_stop k cX25_settle pc none) (t := [ev_r142_0 E]) ⟨ev_h142_0 hRf hR1 hRl hRc hRs hE hXs hA S hname, trivial⟩ (pc := pc) (x := x)
  exact ⟨fun pc f hf => K pc _ hf, fun pc k hk => K pc _ hk⟩
theorem ev_t143 {l : Launch} {D : va_G} {A : Nat → Prop} {ex : Nat → Value} : k_TbQ l D ev_cl A ex ev_ty (ev_XT A ex) ev_y ev_b ev_nL ev_ret ev_ws ev_cm ev_sm 0 150 143 ev_m143 := by
  refine Or.inr ⟨by decide +kernel, ⟨ev_W, Or.inl rfl⟩, fun d E hd6 hE p e R s m args below meth c Q ad0 hx hb hml hname hown hts hXs hA hRf0 hR0 hRl hRc hRs => ?_⟩
  have hRf := hRf0.imp_right And.right
  have hR1 : 1 ≤ R.frames := hR0.resolve_left (by decide)
  have S : CallFix p m c cX25_take 2 s args ev_W RX25 := ⟨hx, hb, hml, hown, fun w hw => hts w (List.mem_cons_of_mem _ hw)⟩
  have K := fun (pc : Nat) (x : ev_I ⊕ Nat) => ev_code_at (P := fun pc f => ev_Sim p l e R s m args below meth c Q 2 D ev_cl A s.heap ex ad0 ev_ty pc f) (K := fun pc k => ev_stop k cX25_take pc (some .int)) (t := [ev_r143_0 E, ev_r143_1 E, ev_r143_2 E, ev_r143_3 E, ev_r143_4 E]) ⟨ev_h143_0 hRf hR1 hRl hRc hRs hE hXs hA S hname, ⟨ev_h143_1 hRf hR1 hRl hRc hRs hE hXs hA S hname, ⟨ev_h143_2 hRf hR1 hRl hRc hRs hE hXs hA S hname, ⟨ev_h143_3 hRf hR1 hRl hRc hRs hE hXs hA S hname, ⟨ev_h143_4 hRf hR1 hRl hRc hRs hE hXs hA S hname, trivial⟩⟩⟩⟩⟩ (pc := pc) (x := x)
  exact ⟨fun pc f hf => K pc _ hf, fun pc k hk => K pc _ hk⟩
theorem ev_t144 {l : Launch} {D : va_G} {A : Nat → Prop} {ex : Nat → Value} : k_TbQ l D ev_cl A ex ev_ty (ev_XT A ex) ev_y ev_b ev_nL ev_ret ev_ws ev_cm ev_sm 0 150 144 ev_m144 := by
  refine Or.inr ⟨by decide +kernel, ⟨ev_W, Or.inl rfl⟩, fun d E hd6 hE p e R s m args below meth c Q ad0 hx hb hml hname hown hts hXs hA hRf0 hR0 hRl hRc hRs => ?_⟩
  have hRf := hRf0.imp_right And.right
  have hR1 : 1 ≤ R.frames := hR0.resolve_left (by decide)
  have S : CallFix p m c cX26_init 1 s args ev_W RX26 := ⟨hx, hb, hml, hown, fun w hw => hts w (List.mem_cons_of_mem _ hw)⟩
  have K := fun (pc : Nat) (x : ev_I ⊕ Nat) => ev_code_at (P := fun pc f => ev_Sim p l e R s m args below meth c Q 1 D ev_cl A s.heap ex ad0 ev_ty pc f) (K := fun pc k => ev_stop k cX26_init pc none) (t := [ev_r144_0 E, ev_r144_1 E]) ⟨ev_h144_0 hRf hR1 hRl hRc hRs hE hXs hA S hname, ⟨ev_h144_1 hRf hR1 hRl hRc hRs hE hXs hA S hname, trivial⟩⟩ (pc := pc) (x := x)
  exact ⟨fun pc f hf => K pc _ hf, fun pc k hk => K pc _ hk⟩
theorem ev_t145 {l : Launch} {D : va_G} {A : Nat → Prop} {ex : Nat → Value} : k_TbQ l D ev_cl A ex ev_ty (ev_XT A ex) ev_y ev_b ev_nL ev_ret ev_ws ev_cm ev_sm 0 150 145 ev_m145 := by
  refine Or.inr ⟨by decide +kernel, ⟨ev_W, Or.inl rfl⟩, fun d E hd6 hE p e R s m args below meth c Q ad0 hx hb hml hname hown hts hXs hA hRf0 hR0 hRl hRc hRs => ?_⟩
  have hRf := hRf0.imp_right And.right
  have hR1 : 1 ≤ R.frames := hR0.resolve_left (by decide)
  have S : CallFix p m c cX26_chain 3 s args ev_W RX26 := ⟨hx, hb, hml, hown, fun w hw => hts w (List.mem_cons_of_mem _ hw)⟩
  have K := fun (pc : Nat) (x : ev_I ⊕ Nat) => ev_code_at (P := fun pc f => ev_Sim p l e R s m args below meth c Q 3 D ev_cl A s.heap ex ad0 ev_ty pc f) (K := fun pc k => ev_stop k cX26_chain pc (some .int)) (t := [ev_r145_0 E, ev_r145_1 E, ev_r145_2 E]) ⟨ev_h145_0 hRf hR1 hRl hRc hRs hE hXs hA S hname, ⟨ev_h145_1 hRf hR1 hRl hRc hRs hE hXs hA S hname, ⟨ev_h145_2 hRf hR1 hRl hRc hRs hE hXs hA S hname, trivial⟩⟩⟩ (pc := pc) (x := x)
  exact ⟨fun pc f hf => K pc _ hf, fun pc k hk => K pc _ hk⟩
theorem ev_t146 {l : Launch} {D : va_G} {A : Nat → Prop} {ex : Nat → Value} : k_TbQ l D ev_cl A ex ev_ty (ev_XT A ex) ev_y ev_b ev_nL ev_ret ev_ws ev_cm ev_sm 0 150 146 ev_m146 := by
  refine Or.inr ⟨by decide +kernel, ⟨ev_W, Or.inl rfl⟩, fun d E hd6 hE p e R s m args below meth c Q ad0 hx hb hml hname hown hts hXs hA hRf0 hR0 hRl hRc hRs => ?_⟩
  have hRf := hRf0.imp_right And.right
  have hR1 : 1 ≤ R.frames := hR0.resolve_left (by decide)
  have S : CallFix p m c cX26_clear 2 s args ev_W RX26 := ⟨hx, hb, hml, hown, fun w hw => hts w (List.mem_cons_of_mem _ hw)⟩
  have K := fun (pc : Nat) (x : ev_I ⊕ Nat) => ev_code_at (P := fun pc f => ev_Sim p l e R s m args below meth c Q 2 D ev_cl A s.heap ex ad0 ev_ty pc f) (K := fun pc k => ev_stop k cX26_clear pc none) (t := [ev_r146_0 E, ev_r146_1 E, ev_r146_2 E]) ⟨ev_h146_0 hRf hR1 hRl hRc hRs hE hXs hA S hname, ⟨ev_h146_1 hRf hR1 hRl hRc hRs hE hXs hA S hname, ⟨ev_h146_2 hRf hR1 hRl hRc hRs hE hXs hA S hname, trivial⟩⟩⟩ (pc := pc) (x := x)
  exact ⟨fun pc f hf => K pc _ hf, fun pc k hk => K pc _ hk⟩
theorem ev_t147 {l : Launch} {D : va_G} {A : Nat → Prop} {ex : Nat → Value} : k_TbQ l D ev_cl A ex ev_ty (ev_XT A ex) ev_y ev_b ev_nL ev_ret ev_ws ev_cm ev_sm 0 150 147 ev_m147 := by
  refine Or.inr ⟨by decide +kernel, ⟨ev_W, Or.inl rfl⟩, fun d E hd6 hE p e R s m args below meth c Q ad0 hx hb hml hname hown hts hXs hA hRf0 hR0 hRl hRc hRs => ?_⟩
  have hRf := hRf0.imp_right And.right
  have hR1 : 1 ≤ R.frames := hR0.resolve_left (by decide)
  have S : CallFix p m c cX26_find 5 s args ev_W RX26 := ⟨hx, hb, hml, hown, fun w hw => hts w (List.mem_cons_of_mem _ hw)⟩
  have K := fun (pc : Nat) (x : ev_I ⊕ Nat) => ev_code_at (P := fun pc f => ev_Sim p l e R s m args below meth c Q 5 D ev_cl A s.heap ex ad0 ev_ty pc f) (K := fun pc k => ev_stop k cX26_find pc (some (.object "TextShellModel$Entry"))) (t := [ev_r147_0 E, ev_r147_1 E, ev_r147_2 E, ev_r147_3 E, ev_r147_4 E, ev_r147_5 E]) ⟨ev_h147_0 hRf hR1 hRl hRc hRs hE hXs hA S hname, ⟨ev_h147_1 hRf hR1 hRl hRc hRs hE hXs hA S hname, ⟨ev_h147_2 hRf hR1 hRl hRc hRs hE hXs hA S hname, ⟨ev_h147_3 hRf hR1 hRl hRc hRs hE hXs hA S hname, ⟨ev_h147_4 hRf hR1 hRl hRc hRs hE hXs hA S hname, ⟨ev_h147_5 hRf hR1 hRl hRc hRs hE hXs hA S hname, trivial⟩⟩⟩⟩⟩⟩ (pc := pc) (x := x)
  exact ⟨fun pc f hf => K pc _ hf, fun pc k hk => K pc _ hk⟩
theorem ev_t148 {l : Launch} {D : va_G} {A : Nat → Prop} {ex : Nat → Value} : k_TbQ l D ev_cl A ex ev_ty (ev_XT A ex) ev_y ev_b ev_nL ev_ret ev_ws ev_cm ev_sm 0 150 148 ev_m148 := by
  refine Or.inr ⟨by decide +kernel, ⟨ev_W, Or.inl rfl⟩, fun d E hd6 hE p e R s m args below meth c Q ad0 hx hb hml hname hown hts hXs hA hRf0 hR0 hRl hRc hRs => ?_⟩
  have hRf := hRf0.imp_right And.right
  have hR1 : 1 ≤ R.frames := hR0.resolve_left (by decide)
  have S : CallFix p m c cX27_init 1 s args ev_W RX27 := ⟨hx, hb, hml, hown, fun w hw => hts w (List.mem_cons_of_mem _ hw)⟩
  have K := fun (pc : Nat) (x : ev_I ⊕ Nat) => ev_code_at (P := fun pc f => ev_Sim p l e R s m args below meth c Q 1 D ev_cl A s.heap ex ad0 ev_ty pc f) (K := fun pc k => ev_stop k cX27_init pc none) (t := [ev_r148_0 E]) ⟨ev_h148_0 hRf hR1 hRl hRc hRs hE hXs hA S hname, trivial⟩ (pc := pc) (x := x)
  exact ⟨fun pc f hf => K pc _ hf, fun pc k hk => K pc _ hk⟩
theorem ev_t149 {l : Launch} {D : va_G} {A : Nat → Prop} {ex : Nat → Value} : k_TbQ l D ev_cl A ex ev_ty (ev_XT A ex) ev_y ev_b ev_nL ev_ret ev_ws ev_cm ev_sm 0 150 149 ev_m149 := by
  refine Or.inr ⟨by decide +kernel, ⟨ev_W, Or.inl rfl⟩, fun d E hd6 hE p e R s m args below meth c Q ad0 hx hb hml hname hown hts hXs hA hRf0 hR0 hRl hRc hRs => ?_⟩
  have hRf := hRf0.imp_right And.right
  have hR1 : 1 ≤ R.frames := hR0.resolve_left (by decide)
  have S : CallFix p m c cJ0_charAt_5068e 2 s args ev_W RJ0 := ⟨hx, hb, hml, hown, fun w hw => hts w (List.mem_cons_of_mem _ hw)⟩
  have K := fun (pc : Nat) (x : ev_I ⊕ Nat) => ev_code_at (P := fun pc f => ev_Sim p l e R s m args below meth c Q 2 D ev_cl A s.heap ex ad0 ev_ty pc f) (K := fun pc k => ev_stop k cJ0_charAt_5068e pc (some .char)) (t := [ev_r149_0 E]) ⟨ev_h149_0 hRf hR1 hRl hRc hRs hE hXs hA S hname, trivial⟩ (pc := pc) (x := x)
  exact ⟨fun pc f hf => K pc _ hf, fun pc k hk => K pc _ hk⟩
theorem ev_t150 {l : Launch} {D : va_G} {A : Nat → Prop} {ex : Nat → Value} : k_TbQ l D ev_cl A ex ev_ty (ev_XT A ex) ev_y ev_b ev_nL ev_ret ev_ws ev_cm ev_sm 0 150 150 ev_m150 := by
  refine Or.inr ⟨by decide +kernel, ⟨ev_W, Or.inl rfl⟩, fun d E hd6 hE p e R s m args below meth c Q ad0 hx hb hml hname hown hts hXs hA hRf0 hR0 hRl hRc hRs => ?_⟩
  have hRf := hRf0.imp_right And.right
  have hR1 : True := trivial
  have S : CallFix p m c cJ0_checkIndex_df160 2 s args ev_W RJ0 := ⟨hx, hb, hml, hown, fun w hw => hts w (List.mem_cons_of_mem _ hw)⟩
  have K := fun (pc : Nat) (x : ev_I ⊕ Nat) => ev_code_at (P := fun pc f => ev_Sim p l e R s m args below meth c Q 2 D ev_cl A s.heap ex ad0 ev_ty pc f) (K := fun pc k => ev_stop k cJ0_checkIndex_df160 pc none) (t := [ev_r150_0 E]) ⟨ev_h150_0 hRf hR1 hRl hRc hRs hE hXs hA S hname, trivial⟩ (pc := pc) (x := x)
  exact ⟨fun pc f hf => K pc _ hf, fun pc k hk => K pc _ hk⟩
theorem ev_t151 {l : Launch} {D : va_G} {A : Nat → Prop} {ex : Nat → Value} : k_TbQ l D ev_cl A ex ev_ty (ev_XT A ex) ev_y ev_b ev_nL ev_ret ev_ws ev_cm ev_sm 0 150 151 ev_m151 := by
  refine Or.inr ⟨by decide +kernel, ⟨ev_W, Or.inl rfl⟩, fun d E hd6 hE p e R s m args below meth c Q ad0 hx hb hml hname hown hts hXs hA hRf0 hR0 hRl hRc hRs => ?_⟩
  have hRf := hRf0.imp_right And.right
  have hR1 : 1 ≤ R.frames := hR0.resolve_left (by decide)
  have S : CallFix p m c cJ0_coder_7d493 1 s args ev_W RJ0 := ⟨hx, hb, hml, hown, fun w hw => hts w (List.mem_cons_of_mem _ hw)⟩
  have K := fun (pc : Nat) (x : ev_I ⊕ Nat) => ev_code_at (P := fun pc f => ev_Sim p l e R s m args below meth c Q 1 D ev_cl A s.heap ex ad0 ev_ty pc f) (K := fun pc k => ev_stop k cJ0_coder_7d493 pc (some .byte)) (t := [ev_r151_0 E]) ⟨ev_h151_0 hRf hR1 hRl hRc hRs hE hXs hA S hname, trivial⟩ (pc := pc) (x := x)
  exact ⟨fun pc f hf => K pc _ hf, fun pc k hk => K pc _ hk⟩
theorem ev_t152 {l : Launch} {D : va_G} {A : Nat → Prop} {ex : Nat → Value} : k_TbQ l D ev_cl A ex ev_ty (ev_XT A ex) ev_y ev_b ev_nL ev_ret ev_ws ev_cm ev_sm 0 150 152 ev_m152 := by
  refine Or.inr ⟨by decide +kernel, ⟨ev_W, Or.inl rfl⟩, fun d E hd6 hE p e R s m args below meth c Q ad0 hx hb hml hname hown hts hXs hA hRf0 hR0 hRl hRc hRs => ?_⟩
  have hRf := hRf0.imp_right And.right
  have hR1 : 1 ≤ R.frames := hR0.resolve_left (by decide)
  have S : CallFix p m c cJ0_isLatin1_aae02 1 s args ev_W RJ0 := ⟨hx, hb, hml, hown, fun w hw => hts w (List.mem_cons_of_mem _ hw)⟩
  have K := fun (pc : Nat) (x : ev_I ⊕ Nat) => ev_code_at (P := fun pc f => ev_Sim p l e R s m args below meth c Q 1 D ev_cl A s.heap ex ad0 ev_ty pc f) (K := fun pc k => ev_stop k cJ0_isLatin1_aae02 pc (some .boolean)) (t := [ev_r152_0 E, ev_r152_1 E]) ⟨ev_h152_0 hRf hR1 hRl hRc hRs hE hXs hA S hname, ⟨ev_h152_1 hRf hR1 hRl hRc hRs hE hXs hA S hname, trivial⟩⟩ (pc := pc) (x := x)
  exact ⟨fun pc f hf => K pc _ hf, fun pc k hk => K pc _ hk⟩
theorem ev_t153 {l : Launch} {D : va_G} {A : Nat → Prop} {ex : Nat → Value} : k_TbQ l D ev_cl A ex ev_ty (ev_XT A ex) ev_y ev_b ev_nL ev_ret ev_ws ev_cm ev_sm 0 150 153 ev_m153 := by
  refine Or.inr ⟨by decide +kernel, ⟨ev_W, Or.inl rfl⟩, fun d E hd6 hE p e R s m args below meth c Q ad0 hx hb hml hname hown hts hXs hA hRf0 hR0 hRl hRc hRs => ?_⟩
  have hRf := hRf0.imp_right And.right
  have hR1 : 1 ≤ R.frames := hR0.resolve_left (by decide)
  have S : CallFix p m c cJ0_length_8abf5 1 s args ev_W RJ0 := ⟨hx, hb, hml, hown, fun w hw => hts w (List.mem_cons_of_mem _ hw)⟩
  have K := fun (pc : Nat) (x : ev_I ⊕ Nat) => ev_code_at (P := fun pc f => ev_Sim p l e R s m args below meth c Q 1 D ev_cl A s.heap ex ad0 ev_ty pc f) (K := fun pc k => ev_stop k cJ0_length_8abf5 pc (some .int)) (t := [ev_r153_0 E]) ⟨ev_h153_0 hRf hR1 hRl hRc hRs hE hXs hA S hname, trivial⟩ (pc := pc) (x := x)
  exact ⟨fun pc f hf => K pc _ hf, fun pc k hk => K pc _ hk⟩
theorem ev_t154 {l : Launch} {D : va_G} {A : Nat → Prop} {ex : Nat → Value} : k_TbQ l D ev_cl A ex ev_ty (ev_XT A ex) ev_y ev_b ev_nL ev_ret ev_ws ev_cm ev_sm 0 150 154 ev_m154 := by
  refine Or.inr ⟨by decide +kernel, ⟨ev_W, Or.inl rfl⟩, fun d E hd6 hE p e R s m args below meth c Q ad0 hx hb hml hname hown hts hXs hA hRf0 hR0 hRl hRc hRs => ?_⟩
  have hRf := hRf0.imp_right And.right
  have hR1 : 1 ≤ R.frames := hR0.resolve_left (by decide)
  have S : CallFix p m c cJ1_charAt_3b067 2 s args ev_W RJ1 := ⟨hx, hb, hml, hown, fun w hw => hts w (List.mem_cons_of_mem _ hw)⟩
  have K := fun (pc : Nat) (x : ev_I ⊕ Nat) => ev_code_at (P := fun pc f => ev_Sim p l e R s m args below meth c Q 2 D ev_cl A s.heap ex ad0 ev_ty pc f) (K := fun pc k => ev_stop k cJ1_charAt_3b067 pc (some .char)) (t := [ev_r154_0 E]) ⟨ev_h154_0 hRf hR1 hRl hRc hRs hE hXs hA S hname, trivial⟩ (pc := pc) (x := x)
  exact ⟨fun pc f hf => K pc _ hf, fun pc k hk => K pc _ hk⟩
theorem ev_t155 {l : Launch} {D : va_G} {A : Nat → Prop} {ex : Nat → Value} : k_TbQ l D ev_cl A ex ev_ty (ev_XT A ex) ev_y ev_b ev_nL ev_ret ev_ws ev_cm ev_sm 0 150 155 ev_m155 := by
  refine Or.inr ⟨by decide +kernel, ⟨ev_W, Or.inl rfl⟩, fun d E hd6 hE p e R s m args below meth c Q ad0 hx hb hml hname hown hts hXs hA hRf0 hR0 hRl hRc hRs => ?_⟩
  have hRf := hRf0.imp_right And.right
  have hR1 : 1 ≤ R.frames := hR0.resolve_left (by decide)
  have S : CallFix p m c cJxa1e45_init_da8c8 1 s args ev_W RJxa1e45 := ⟨hx, hb, hml, hown, fun w hw => hts w (List.mem_cons_of_mem _ hw)⟩
  have K := fun (pc : Nat) (x : ev_I ⊕ Nat) => ev_code_at (P := fun pc f => ev_Sim p l e R s m args below meth c Q 1 D ev_cl A s.heap ex ad0 ev_ty pc f) (K := fun pc k => ev_stop k cJxa1e45_init_da8c8 pc none) (t := [ev_r155_0 E]) ⟨ev_h155_0 hRf hR1 hRl hRc hRs hE hXs hA S hname, trivial⟩ (pc := pc) (x := x)
  exact ⟨fun pc f hf => K pc _ hf, fun pc k hk => K pc _ hk⟩
theorem ev_t156 {l : Launch} {D : va_G} {A : Nat → Prop} {ex : Nat → Value} : k_TbQ l D ev_cl A ex ev_ty (ev_XT A ex) ev_y ev_b ev_nL ev_ret ev_ws ev_cm ev_sm 0 150 156 ev_m156 := by
  refine Or.inr ⟨by decide +kernel, ⟨ev_W, Or.inl rfl⟩, fun d E hd6 hE p e R s m args below meth c Q ad0 hx hb hml hname hown hts hXs hA hRf0 hR0 hRl hRc hRs => ?_⟩
  have hRf := hRf0.imp_right And.right
  have hR1 : 1 ≤ R.frames := hR0.resolve_left (by decide)
  have S : CallFix p m c cJxc12de_init_da8c8 1 s args ev_W RJxc12de := ⟨hx, hb, hml, hown, fun w hw => hts w (List.mem_cons_of_mem _ hw)⟩
  have K := fun (pc : Nat) (x : ev_I ⊕ Nat) => ev_code_at (P := fun pc f => ev_Sim p l e R s m args below meth c Q 1 D ev_cl A s.heap ex ad0 ev_ty pc f) (K := fun pc k => ev_stop k cJxc12de_init_da8c8 pc none) (t := [ev_r156_0 E]) ⟨ev_h156_0 hRf hR1 hRl hRc hRs hE hXs hA S hname, trivial⟩ (pc := pc) (x := x)
  exact ⟨fun pc f hf => K pc _ hf, fun pc k hk => K pc _ hk⟩
theorem ev_t157 {l : Launch} {D : va_G} {A : Nat → Prop} {ex : Nat → Value} : k_TbQ l D ev_cl A ex ev_ty (ev_XT A ex) ev_y ev_b ev_nL ev_ret ev_ws ev_cm ev_sm 0 150 157 ev_m157 := by
  refine Or.inr ⟨by decide +kernel, ⟨ev_W, Or.inl rfl⟩, fun d E hd6 hE p e R s m args below meth c Q ad0 hx hb hml hname hown hts hXs hA hRf0 hR0 hRl hRc hRs => ?_⟩
  have hRf := hRf0.imp_right And.right
  have hR1 : 1 ≤ R.frames := hR0.resolve_left (by decide)
  have S : CallFix p m c cJx4a65c_init_da8c8 1 s args ev_W RJx4a65c := ⟨hx, hb, hml, hown, fun w hw => hts w (List.mem_cons_of_mem _ hw)⟩
  have K := fun (pc : Nat) (x : ev_I ⊕ Nat) => ev_code_at (P := fun pc f => ev_Sim p l e R s m args below meth c Q 1 D ev_cl A s.heap ex ad0 ev_ty pc f) (K := fun pc k => ev_stop k cJx4a65c_init_da8c8 pc none) (t := [ev_r157_0 E]) ⟨ev_h157_0 hRf hR1 hRl hRc hRs hE hXs hA S hname, trivial⟩ (pc := pc) (x := x)
  exact ⟨fun pc f hf => K pc _ hf, fun pc k hk => K pc _ hk⟩
theorem ev_t158 {l : Launch} {D : va_G} {A : Nat → Prop} {ex : Nat → Value} : k_TbQ l D ev_cl A ex ev_ty (ev_XT A ex) ev_y ev_b ev_nL ev_ret ev_ws ev_cm ev_sm 0 150 158 ev_m158 := by
  refine Or.inr ⟨by decide +kernel, ⟨ev_W, Or.inl rfl⟩, fun d E hd6 hE p e R s m args below meth c Q ad0 hx hb hml hname hown hts hXs hA hRf0 hR0 hRl hRc hRs => ?_⟩
  have hRf := hRf0.imp_right And.right
  have hR1 : 1 ≤ R.frames := hR0.resolve_left (by decide)
  have S : CallFix p m c cJ3_checkIndex_8e157 3 s args ev_W RJ3 := ⟨hx, hb, hml, hown, fun w hw => hts w (List.mem_cons_of_mem _ hw)⟩
  have K := fun (pc : Nat) (x : ev_I ⊕ Nat) => ev_code_at (P := fun pc f => ev_Sim p l e R s m args below meth c Q 3 D ev_cl A s.heap ex ad0 ev_ty pc f) (K := fun pc k => ev_stop k cJ3_checkIndex_8e157 pc (some .int)) (t := [ev_r158_0 E, ev_r158_1 E]) ⟨ev_h158_0 hRf hR1 hRl hRc hRs hE hXs hA S hname, ⟨ev_h158_1 hRf hR1 hRl hRc hRs hE hXs hA S hname, trivial⟩⟩ (pc := pc) (x := x)
  exact ⟨fun pc f hf => K pc _ hf, fun pc k hk => K pc _ hk⟩
theorem k_tallA {l : Launch} {D : va_G} {A : Nat → Prop} {ex : Nat → Value} (hl0 : l.stackTraces = false) : k_Tb l D ev_cl A ex ev_ty (ev_XT A ex) ev_y ev_b ev_nL ev_ret ev_ws ev_cm ev_sm 6 150 ev_mc :=
  k_tb_of (ms := ev_ms) (fun mid E pc => rfl) (ev_ac (k_upp (ev_t0)) (ev_ac (k_upp (ev_t1)) (ev_ac (k_upp (ev_t2)) (ev_ac (k_upp (ev_t3)) (ev_ac (k_upp (ev_t4)) (ev_ac (k_upp (ev_t5)) (ev_ac (k_upp (ev_t6)) (ev_ac (k_upp (ev_t7)) (ev_ac (k_upp (ev_t8)) (ev_ac (k_upp (ev_t9)) (ev_ac (k_upp (ev_t10)) (ev_ac (k_upp (ev_t11)) (ev_ac (k_upp (ev_t12)) (ev_ac (k_upp (ev_t13)) (ev_ac (k_upp (ev_t14)) (ev_ac (k_upp (ev_t15)) (ev_ac (k_upp (ev_t16)) (ev_ac (k_upp (ev_t17)) (ev_ac (k_upp (ev_t18)) (ev_ac (k_upp (ev_t19)) (ev_ac (k_upp (ev_t20)) (ev_ac (k_upp (ev_t21)) (ev_ac (k_upp (ev_t22)) (ev_ac (k_upp (ev_t23)) (ev_ac (k_upp (ev_t24)) (ev_ac (k_upp (ev_t25)) (ev_ac (k_upp (ev_t26)) (ev_ac (k_upp (ev_t27)) (ev_ac (k_upp (ev_t28)) (ev_ac (k_upp (ev_t29)) (ev_ac (k_upp (ev_t30)) (ev_ac (k_upp (ev_t31)) (ev_ac (k_upp (ev_t32)) (ev_ac (k_upp (ev_t33)) (ev_ac (k_upp (ev_t34)) (ev_ac (k_upp (ev_t35)) (ev_ac (k_upp (ev_t36)) (ev_ac (k_upp (ev_t37)) (ev_ac (k_upp (ev_t38)) (ev_ac (k_upp (ev_t39)) (ev_ac (k_upp (ev_t40)) (ev_ac (k_upp (ev_t41)) (ev_ac (k_upp (ev_t42)) (ev_ac (k_upp (ev_t43)) (ev_ac (k_upp (ev_t44)) (ev_ac (k_upp (ev_t45)) (ev_ac (k_upp (ev_t46)) (ev_ac (k_upp (ev_t47)) (ev_ac (k_upp (ev_t48)) (ev_ac (k_upp (ev_t49)) (ev_ac (k_upp (ev_t50)) (ev_ac (k_upp (ev_t51)) (ev_ac (k_upp (ev_t52)) (ev_ac (k_upp (ev_t53)) (ev_ac (k_upp (ev_t54)) (ev_ac (k_upp (ev_t55)) (ev_ac (k_upp (ev_t56)) (ev_ac (k_upp (ev_t57)) (ev_ac (k_upp (ev_t58)) (ev_ac (k_upp (ev_t59)) (ev_ac (k_upp (ev_t60)) (ev_ac (k_upp (ev_t61)) (ev_ac (k_upp (ev_t62)) (ev_ac (k_upp (ev_t63)) (ev_ac (k_upp (ev_t64)) (ev_ac (k_upp (ev_t65)) (ev_ac (k_upp (ev_t66)) (ev_ac (k_upp (ev_t67)) (ev_ac (k_upp (ev_t68)) (ev_ac (k_upp (ev_t69)) (ev_ac (k_upp (ev_t70)) (ev_ac (k_upp (ev_t71)) (ev_ac (k_upp (ev_t72)) (ev_ac (k_upp (ev_t73)) (ev_ac (k_upp (ev_t74)) (ev_ac (k_upp (ev_t75)) (ev_ac (Or.inl fun _ _ => rfl) (ev_ac (k_upp (ev_t77)) (ev_ac (k_upp (ev_t78)) (ev_ac (ev_t79 hl0) (ev_ac (k_upp (ev_t80)) (ev_ac (k_upp (ev_t81)) (ev_ac (k_upp (ev_t82)) (ev_ac (k_upp (ev_t83)) (ev_ac (k_upp (ev_t84)) (ev_ac (k_upp (ev_t85)) (ev_ac (k_upp (ev_t86)) (ev_ac (k_upp (ev_t87)) (ev_ac (k_upp (ev_t88)) (ev_ac (k_upp (ev_t89)) (ev_ac (k_upp (ev_t90)) (ev_ac (k_upp (ev_t91)) (ev_ac (k_upp (ev_t92)) (ev_ac (k_upp (ev_t93)) (ev_ac (k_upp (ev_t94)) (ev_ac (k_upp (ev_t95)) (ev_ac (k_upp (ev_t96)) (ev_ac (k_upp (ev_t97)) (ev_ac (k_upp (ev_t98)) (ev_ac (k_upp (ev_t99)) (ev_ac (k_upp (ev_t100)) (ev_ac (k_upp (ev_t101)) (ev_ac (k_upp (ev_t102)) (ev_ac (k_upp (ev_t103)) (ev_ac (k_upp (ev_t104)) (ev_ac (k_upp (ev_t105)) (ev_ac (k_upp (ev_t106)) (ev_ac (k_upp (ev_t107)) (ev_ac (k_upp (ev_t108)) (ev_ac (k_upp (ev_t109)) (ev_ac (k_upp (ev_t110)) (ev_ac (k_upp (ev_t111)) (ev_ac (k_upp (ev_t112)) (ev_ac (k_upp (ev_t113)) (ev_ac (k_upp (ev_t114)) (ev_ac (k_upp (ev_t115)) (ev_ac (k_upp (ev_t116)) (ev_ac (k_upp (ev_t117)) (ev_ac (k_upp (ev_t118)) (ev_ac (k_upp (ev_t119)) (ev_ac (k_upp (ev_t120)) (ev_ac (k_upp (ev_t121)) (ev_ac (k_upp (ev_t122)) (ev_ac (k_upp (ev_t123)) (ev_ac (k_upp (ev_t124)) (ev_ac (k_upp (ev_t125)) (ev_ac (k_upp (ev_t126)) (ev_ac (k_upp (ev_t127)) (ev_ac (k_upp (ev_t128)) (ev_ac (k_upp (ev_t129)) (ev_ac (k_upp (ev_t130)) (ev_ac (k_upp (ev_t131)) (ev_ac (k_upp (ev_t132)) (ev_ac (k_upp (ev_t133)) (ev_ac (k_upp (ev_t134)) (ev_ac (k_upp (ev_t135)) (ev_ac (k_upp (ev_t136)) (ev_ac (k_upp (ev_t137)) (ev_ac (k_upp (ev_t138)) (ev_ac (k_upp (ev_t139)) (ev_ac (k_upp (ev_t140)) (ev_ac (k_upp (ev_t141)) (ev_ac (k_upp (ev_t142)) (ev_ac (k_upp (ev_t143)) (ev_ac (k_upp (ev_t144)) (ev_ac (k_upp (ev_t145)) (ev_ac (k_upp (ev_t146)) (ev_ac (k_upp (ev_t147)) (ev_ac (k_upp (ev_t148)) (ev_ac (k_upp (ev_t149)) (ev_ac (k_upp (ev_t150)) (ev_ac (k_upp (ev_t151)) (ev_ac (k_upp (ev_t152)) (ev_ac (k_upp (ev_t153)) (ev_ac (k_upp (ev_t154)) (ev_ac (k_upp (ev_t155)) (ev_ac (k_upp (ev_t156)) (ev_ac (k_upp (ev_t157)) (ev_ac (k_upp (ev_t158)) (ev_az))))))))))))))))))))))))))))))))))))))))))))))))))))))))))))))))))))))))))))))))))))))))))))))))))))))))))))))))))))))))))))))))))))))))))))))))))))))))))))))))
noncomputable def k_msB : List (ev_E → Nat → Option (ev_I ⊕ Nat)) := [ev_m0, ev_m1, ev_m2, ev_m3, ev_m4, ev_m5, ev_m6, ev_m7, ev_m8, ev_m9, ev_m10, ev_m11, ev_m12, ev_m13, ev_m14, ev_m15, ev_m16, ev_m17, ev_m18, ev_m19, ev_m20, ev_m21, ev_m22, ev_m23, ev_m24, ev_m25, ev_m26, ev_m27, ev_m28, ev_m29, ev_m30, ev_m31, ev_m32, ev_m33, ev_m34, ev_m35, ev_m36, ev_m37, ev_m38, ev_m39, ev_m40, ev_m41, ev_m42, ev_m43, ev_m44, ev_m45, ev_m46, ev_m47, ev_m48, ev_m49, ev_m50, ev_m51, ev_m52, ev_m53, ev_m54, ev_m55, ev_m56, ev_m57, ev_m58, ev_m59, ev_m60, ev_m61, ev_m62, ev_m63, ev_m64, ev_m65, ev_m66, ev_m67, ev_m68, ev_m69, ev_m70, ev_m71, ev_m72, ev_m73, ev_m74, ev_m75, ev_mz, ev_m77, ev_m78, ev_mz, ev_m80, ev_m81, ev_m82, ev_m83, ev_m84, ev_m85, ev_m86, ev_m87, ev_m88, ev_m89, ev_m90, ev_m91, ev_m92, ev_m93, ev_m94, ev_m95, ev_m96, ev_m97, ev_m98, ev_m99, ev_m100, ev_m101, ev_m102, ev_m103, ev_m104, ev_m105, ev_m106, ev_m107, ev_m108, ev_m109, ev_m110, ev_m111, ev_m112, ev_m113, ev_m114, ev_m115, ev_m116, ev_m117, ev_m118, ev_m119, ev_m120, ev_m121, ev_m122, ev_m123, ev_m124, ev_m125, ev_m126, ev_m127, ev_m128, ev_m129, ev_m130, ev_m131, ev_m132, ev_m133, ev_m134, ev_m135, ev_m136, ev_m137, ev_m138, ev_m139, ev_m140, ev_m141, ev_m142, ev_m143, ev_m144, ev_m145, ev_m146, ev_m147, ev_m148, ev_m149, ev_m150, ev_m151, ev_m152, ev_m153, ev_m154, ev_m155, ev_m156, ev_m157, ev_m158]
noncomputable def k_mcB (mid : Nat) (E : ev_E) (pc : Nat) : Option (ev_I ⊕ Nat) := match ev_lg k_msB mid with
  | some f => f E pc
  | none => none
theorem k_tallB {l : Launch} {D : va_G} {A : Nat → Prop} {ex : Nat → Value} : k_Tb l D ev_cl A ex ev_ty (ev_XT A ex) ev_y ev_b ev_nL ev_ret ev_ws ev_cm ev_sm 0 150 k_mcB :=
  k_tb_of (ms := k_msB) (fun mid E pc => rfl) (ev_ac (ev_t0) (ev_ac (ev_t1) (ev_ac (ev_t2) (ev_ac (ev_t3) (ev_ac (ev_t4) (ev_ac (ev_t5) (ev_ac (ev_t6) (ev_ac (ev_t7) (ev_ac (ev_t8) (ev_ac (ev_t9) (ev_ac (ev_t10) (ev_ac (ev_t11) (ev_ac (ev_t12) (ev_ac (ev_t13) (ev_ac (ev_t14) (ev_ac (ev_t15) (ev_ac (ev_t16) (ev_ac (ev_t17) (ev_ac (ev_t18) (ev_ac (ev_t19) (ev_ac (ev_t20) (ev_ac (ev_t21) (ev_ac (ev_t22) (ev_ac (ev_t23) (ev_ac (ev_t24) (ev_ac (ev_t25) (ev_ac (ev_t26) (ev_ac (ev_t27) (ev_ac (ev_t28) (ev_ac (ev_t29) (ev_ac (ev_t30) (ev_ac (ev_t31) (ev_ac (ev_t32) (ev_ac (ev_t33) (ev_ac (ev_t34) (ev_ac (ev_t35) (ev_ac (ev_t36) (ev_ac (ev_t37) (ev_ac (ev_t38) (ev_ac (ev_t39) (ev_ac (ev_t40) (ev_ac (ev_t41) (ev_ac (ev_t42) (ev_ac (ev_t43) (ev_ac (ev_t44) (ev_ac (ev_t45) (ev_ac (ev_t46) (ev_ac (ev_t47) (ev_ac (ev_t48) (ev_ac (ev_t49) (ev_ac (ev_t50) (ev_ac (ev_t51) (ev_ac (ev_t52) (ev_ac (ev_t53) (ev_ac (ev_t54) (ev_ac (ev_t55) (ev_ac (ev_t56) (ev_ac (ev_t57) (ev_ac (ev_t58) (ev_ac (ev_t59) (ev_ac (ev_t60) (ev_ac (ev_t61) (ev_ac (ev_t62) (ev_ac (ev_t63) (ev_ac (ev_t64) (ev_ac (ev_t65) (ev_ac (ev_t66) (ev_ac (ev_t67) (ev_ac (ev_t68) (ev_ac (ev_t69) (ev_ac (ev_t70) (ev_ac (ev_t71) (ev_ac (ev_t72) (ev_ac (ev_t73) (ev_ac (ev_t74) (ev_ac (ev_t75) (ev_ac (Or.inl fun _ _ => rfl) (ev_ac (ev_t77) (ev_ac (ev_t78) (ev_ac (Or.inl fun _ _ => rfl) (ev_ac (ev_t80) (ev_ac (ev_t81) (ev_ac (ev_t82) (ev_ac (ev_t83) (ev_ac (ev_t84) (ev_ac (ev_t85) (ev_ac (ev_t86) (ev_ac (ev_t87) (ev_ac (ev_t88) (ev_ac (ev_t89) (ev_ac (ev_t90) (ev_ac (ev_t91) (ev_ac (ev_t92) (ev_ac (ev_t93) (ev_ac (ev_t94) (ev_ac (ev_t95) (ev_ac (ev_t96) (ev_ac (ev_t97) (ev_ac (ev_t98) (ev_ac (ev_t99) (ev_ac (ev_t100) (ev_ac (ev_t101) (ev_ac (ev_t102) (ev_ac (ev_t103) (ev_ac (ev_t104) (ev_ac (ev_t105) (ev_ac (ev_t106) (ev_ac (ev_t107) (ev_ac (ev_t108) (ev_ac (ev_t109) (ev_ac (ev_t110) (ev_ac (ev_t111) (ev_ac (ev_t112) (ev_ac (ev_t113) (ev_ac (ev_t114) (ev_ac (ev_t115) (ev_ac (ev_t116) (ev_ac (ev_t117) (ev_ac (ev_t118) (ev_ac (ev_t119) (ev_ac (ev_t120) (ev_ac (ev_t121) (ev_ac (ev_t122) (ev_ac (ev_t123) (ev_ac (ev_t124) (ev_ac (ev_t125) (ev_ac (ev_t126) (ev_ac (ev_t127) (ev_ac (ev_t128) (ev_ac (ev_t129) (ev_ac (ev_t130) (ev_ac (ev_t131) (ev_ac (ev_t132) (ev_ac (ev_t133) (ev_ac (ev_t134) (ev_ac (ev_t135) (ev_ac (ev_t136) (ev_ac (ev_t137) (ev_ac (ev_t138) (ev_ac (ev_t139) (ev_ac (ev_t140) (ev_ac (ev_t141) (ev_ac (ev_t142) (ev_ac (ev_t143) (ev_ac (ev_t144) (ev_ac (ev_t145) (ev_ac (ev_t146) (ev_ac (ev_t147) (ev_ac (ev_t148) (ev_ac (ev_t149) (ev_ac (ev_t150) (ev_ac (ev_t151) (ev_ac (ev_t152) (ev_ac (ev_t153) (ev_ac (ev_t154) (ev_ac (ev_t155) (ev_ac (ev_t156) (ev_ac (ev_t157) (ev_ac (ev_t158) (ev_az))))))))))))))))))))))))))))))))))))))))))))))))))))))))))))))))))))))))))))))))))))))))))))))))))))))))))))))))))))))))))))))))))))))))))))))))))))))))))))))))
end KV40_tabs
