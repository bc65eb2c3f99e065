noncomputable section KV53_hops
/-! THE PLACES WHERE THE RUN GOES DOWN (printed by wip/ev2/pf3.py). -/
theorem k_hopL {l : Launch} {D : va_G} {A : Nat → Prop} {ex : Nat → Value} {p : Program} {e : Env} {R : Room} {s : State} {m : MethodId} {args : Array Value} {below : List Frame} {meth : Method} {c : Code} (S : CallFix p m c cL_law 7 s args ev_W RL) (hXs : ev_XT A ex s) (hA : ∀ q, s.heap.size ≤ q → A q) (hX : k_X e s R.frames) {rm : Room} (hfr : rm.frames + 1 = R.frames) (hlo : 8 + (ev_nL 105 + 11) + rm.locals ≤ R.locals) {H : Heap} {locs : List Loc} {cells slots : Nat} {ls : Array Slot} {w : va_W} {tys : List (ClassId × FieldType)} {h : ev_Hp} {as : List ev_V} {vals rest : List Value} (hK : va_K D ev_cl tys s) (hP : va_P D ev_cl w H) (hD : va_D A w) (hS : va_S A s.heap H locs) (hh : ev_hR [] ev_ty tys ex h w) (hsz : ls.size = 7) (hv : ev_kR (w.map Prod.fst) ex as vals) (hlen : vals.length = 2) (hrc : (ev_recv 13) h as = true) (hcat : (rest.map fun v => v.category).sum ≤ 8) (hce : cells + rm.cells ≤ R.cells) (hsl : slots + rm.slots ≤ R.slots) (hM : k_Met l (ev_y 105) (ev_ws 105) rm (va_Pc vals (ev_Pr D ev_cl A ex ev_ty (ev_XT A ex) h w tys))) : W p l e R s m args below meth c H locs cells slots k_Q (F0 m 193 ls (vals.reverse ++ rest)) := by
  obtain ⟨b, As, rfl, hcell⟩ := ev_recv_ok hrc (rfl : ev_cl[13]? = some (RX28, TX28, 104)) hK hP hh hv
  exact k_runV (C := RX28) (host := "") S hM (k_ask 1 ev_Wg S.2.2.2.2 (Or.inl ⟨rfl, ev_v445⟩) ev_v429 ⟨by decide, by decide, by decide +kernel⟩ hfr hlo hce hsl) (Or.inl (S.2.2.2.2 _ ev_v446)) (S.2.2.2.2 _ ev_v447) (S.2.2.2.2 _ ev_v448) ⟨ev_blind ev_XT_ok, hcell, ev_start ev_XT_ok hXs hA hK hP hD hS hh⟩ rfl (by simpa using hlen) hsz (by simp) (lv_room hcat) dL_law_193 hX
theorem k_hop0 {l : Launch} {D : va_G} {A : Nat → Prop} {ex : Nat → Value} : k_Hop l D ev_cl A ex ev_ty (ev_XT A ex) ev_y ev_b ev_nL ev_ws 105 38 106 2 (ev_recv 13) := by
  intro p e R s m args below meth c hx hb hml hown hts hXs hA hX rm hfr hlo H locs cells slots ls w tys h as vals rest hK hP hD hS hh hsz hv hlen hrc hcat hce hsl hM
  have S : CallFix p m c cX28_read_ 3 s args ev_W RX28 := ⟨hx, hb, hml, hown, fun w hw => hts w (List.mem_cons_of_mem _ hw)⟩
  obtain ⟨b, As, rfl, hcell⟩ := ev_recv_ok hrc (rfl : ev_cl[13]? = some (RX28, TX28, 104)) hK hP hh hv
  exact k_runV (C := RX28) (host := "") S hM (k_ask 1 ev_Wg S.2.2.2.2 (Or.inr ⟨_, rfl, ev_v628⟩) ev_v429 ⟨by decide, by decide, by decide +kernel⟩ hfr hlo hce hsl) (Or.inl (S.2.2.2.2 _ ev_v629)) (S.2.2.2.2 _ ev_v630) (S.2.2.2.2 _ ev_v631) ⟨ev_blind ev_XT_ok, hcell, ev_start ev_XT_ok hXs hA hK hP hD hS hh⟩ rfl (by simpa using hlen) hsz (by simp) (lv_room hcat) dX28_read__38 hX
theorem k_hop1 {l : Launch} {D : va_G} {A : Nat → Prop} {ex : Nat → Value} : k_Hop l D ev_cl A ex ev_ty (ev_XT A ex) ev_y ev_b ev_nL ev_ws 106 46 110 5 (ev_recv 13) := by
  intro p e R s m args below meth c hx hb hml hown hts hXs hA hX rm hfr hlo H locs cells slots ls w tys h as vals rest hK hP hD hS hh hsz hv hlen hrc hcat hce hsl hM
  have S : CallFix p m c cX28_reads 3 s args ev_W RX28 := ⟨hx, hb, hml, hown, fun w hw => hts w (List.mem_cons_of_mem _ hw)⟩
  obtain ⟨b, As, rfl, hcell⟩ := ev_recv_ok hrc (rfl : ev_cl[13]? = some (RX28, TX28, 104)) hK hP hh hv
  exact k_runV (C := RX28) (host := "") S hM (k_ask 4 ev_Wg S.2.2.2.2 (Or.inl ⟨rfl, ev_v634⟩) ev_v429 ⟨by decide, by decide, by decide +kernel⟩ hfr hlo hce hsl) (Or.inl (S.2.2.2.2 _ ev_v635)) (S.2.2.2.2 _ ev_v636) (S.2.2.2.2 _ ev_v637) ⟨ev_blind ev_XT_ok, hcell, ev_start ev_XT_ok hXs hA hK hP hD hS hh⟩ rfl (by simpa using hlen) hsz (by simp) (lv_room hcat) dX28_reads_46 hX
theorem k_hop2 {l : Launch} {D : va_G} {A : Nat → Prop} {ex : Nat → Value} : k_Hop l D ev_cl A ex ev_ty (ev_XT A ex) ev_y ev_b ev_nL ev_ws 110 105 141 1 (ev_recv 21) := by
  intro p e R s m args below meth c hx hb hml hown hts hXs hA hX rm hfr hlo H locs cells slots ls w tys h as vals rest hK hP hD hS hh hsz hv hlen hrc hcat hce hsl hM
  have S : CallFix p m c cX28_scriptOf 8 s args ev_W RX28 := ⟨hx, hb, hml, hown, fun w hw => hts w (List.mem_cons_of_mem _ hw)⟩
  obtain ⟨b, As, rfl, hcell⟩ := ev_recv_ok hrc (rfl : ev_cl[21]? = some (RX25, TX25, 17)) hK hP hh hv
  exact k_runV (C := RX25) S hM (k_ask 0 ev_Wg S.2.2.2.2 (Or.inl ⟨rfl, ev_v658⟩) ev_v651 ⟨by decide, by decide, by decide +kernel⟩ hfr hlo hce hsl) (Or.inr (va_Nw.use rfl (hXs.1 _ ev_n100))) (S.2.2.2.2 _ ev_v659) (S.2.2.2.2 _ ev_v660) ⟨ev_blind ev_XT_ok, hcell, ev_start ev_XT_ok hXs hA hK hP hD hS hh⟩ rfl (by simpa using hlen) hsz (by simp) (lv_room hcat) dX28_scriptOf_105 hX
theorem k_hop3 {l : Launch} {D : va_G} {A : Nat → Prop} {ex : Nat → Value} : k_Hop l D ev_cl A ex ev_ty (ev_XT A ex) ev_y ev_b ev_nL ev_ws 141 1 142 1 (ev_recv 21) := by
  intro p e R s m args below meth c hx hb hml hown hts hXs hA hX rm hfr hlo H locs cells slots ls w tys h as vals rest hK hP hD hS hh hsz hv hlen hrc hcat hce hsl hM
  have S : CallFix p m c cX25_script 2 s args ev_W RX25 := ⟨hx, hb, hml, hown, fun w hw => hts w (List.mem_cons_of_mem _ hw)⟩
  obtain ⟨b, As, rfl, hcell⟩ := ev_recv_ok hrc (rfl : ev_cl[21]? = some (RX25, TX25, 17)) hK hP hh hv
  exact k_runV (C := RX25) (host := "") S hM (k_ask 0 ev_Wg S.2.2.2.2 (Or.inl ⟨rfl, ev_v777⟩) ev_v651 ⟨by decide, by decide, by decide +kernel⟩ hfr hlo hce hsl) (Or.inl (S.2.2.2.2 _ ev_v778)) (S.2.2.2.2 _ ev_v779) (S.2.2.2.2 _ ev_v780) ⟨ev_blind ev_XT_ok, hcell, ev_start ev_XT_ok hXs hA hK hP hD hS hh⟩ rfl (by simpa using hlen) hsz (by simp) (lv_room hcat) dX25_script_1 hX
theorem k_hop4 {l : Launch} {D : va_G} {A : Nat → Prop} {ex : Nat → Value} : k_Hop l D ev_cl A ex ev_ty (ev_XT A ex) ev_y ev_b ev_nL ev_ws 142 3 126 3 (ev_recv 21) := by
  intro p e R s m args below meth c hx hb hml hown hts hXs hA hX rm hfr hlo H locs cells slots ls w tys h as vals rest hK hP hD hS hh hsz hv hlen hrc hcat hce hsl hM
  have S : CallFix p m c cX25_settle 1 s args ev_W RX25 := ⟨hx, hb, hml, hown, fun w hw => hts w (List.mem_cons_of_mem _ hw)⟩
  obtain ⟨b, As, rfl, hcell⟩ := ev_recv_ok hrc (rfl : ev_cl[21]? = some (RX25, TX25, 17)) hK hP hh hv
  exact k_runV (C := RX25) (host := "") S hM (k_ask 2 ev_Wg S.2.2.2.2 (Or.inl ⟨rfl, ev_v760⟩) ev_v651 ⟨by decide, by decide, by decide +kernel⟩ hfr hlo hce hsl) (Or.inl (S.2.2.2.2 _ ev_v761)) (S.2.2.2.2 _ ev_v762) (S.2.2.2.2 _ ev_v763) ⟨ev_blind ev_XT_ok, hcell, ev_start ev_XT_ok hXs hA hK hP hD hS hh⟩ rfl (by simpa using hlen) hsz (by simp) (lv_room hcat) dX25_settle_3 hX
theorem k_hop5 {l : Launch} {D : va_G} {A : Nat → Prop} {ex : Nat → Value} : k_Hop l D ev_cl A ex ev_ty (ev_XT A ex) ev_y ev_b ev_nL ev_ws 126 202 138 1 (ev_recv 21) := by
  intro p e R s m args below meth c hx hb hml hown hts hXs hA hX rm hfr hlo H locs cells slots ls w tys h as vals rest hK hP hD hS hh hsz hv hlen hrc hcat hce hsl hM
  have S : CallFix p m c cX25_aliases 7 s args ev_W RX25 := ⟨hx, hb, hml, hown, fun w hw => hts w (List.mem_cons_of_mem _ hw)⟩
  obtain ⟨b, As, rfl, hcell⟩ := ev_recv_ok hrc (rfl : ev_cl[21]? = some (RX25, TX25, 17)) hK hP hh hv
  exact k_runV (C := RX25) (host := "") S hM (k_ask 0 ev_Wg S.2.2.2.2 (Or.inl ⟨rfl, ev_v655⟩) ev_v651 ⟨by decide, by decide, by decide +kernel⟩ hfr hlo hce hsl) (Or.inl (S.2.2.2.2 _ ev_v724)) (S.2.2.2.2 _ ev_v656) (S.2.2.2.2 _ ev_v657) ⟨ev_blind ev_XT_ok, hcell, ev_start ev_XT_ok hXs hA hK hP hD hS hh⟩ rfl (by simpa using hlen) hsz (by simp) (lv_room hcat) dX25_aliases_202 hX
theorem k_hop6 {l : Launch} {D : va_G} {A : Nat → Prop} {ex : Nat → Value} : k_Hop l D ev_cl A ex ev_ty (ev_XT A ex) ev_y ev_b ev_nL ev_ws 138 342 126 3 (ev_recv 21) := by
  intro p e R s m args below meth c hx hb hml hown hts hXs hA hX rm hfr hlo H locs cells slots ls w tys h as vals rest hK hP hD hS hh hsz hv hlen hrc hcat hce hsl hM
  have S : CallFix p m c cX25_next 2 s args ev_W RX25 := ⟨hx, hb, hml, hown, fun w hw => hts w (List.mem_cons_of_mem _ hw)⟩
  obtain ⟨b, As, rfl, hcell⟩ := ev_recv_ok hrc (rfl : ev_cl[21]? = some (RX25, TX25, 17)) hK hP hh hv
  exact k_runV (C := RX25) (host := "") S hM (k_ask 2 ev_Wg S.2.2.2.2 (Or.inl ⟨rfl, ev_v760⟩) ev_v651 ⟨by decide, by decide, by decide +kernel⟩ hfr hlo hce hsl) (Or.inl (S.2.2.2.2 _ ev_v761)) (S.2.2.2.2 _ ev_v762) (S.2.2.2.2 _ ev_v763) ⟨ev_blind ev_XT_ok, hcell, ev_start ev_XT_ok hXs hA hK hP hD hS hh⟩ rfl (by simpa using hlen) hsz (by simp) (lv_room hcat) dX25_next_342 hX
theorem k_hop7 {l : Launch} {D : va_G} {A : Nat → Prop} {ex : Nat → Value} : k_Hop l D ev_cl A ex ev_ty (ev_XT A ex) ev_y ev_b ev_nL ev_ws 126 42 133 1 (ev_recv 21) := by
  intro p e R s m args below meth c hx hb hml hown hts hXs hA hX rm hfr hlo H locs cells slots ls w tys h as vals rest hK hP hD hS hh hsz hv hlen hrc hcat hce hsl hM
  have S : CallFix p m c cX25_aliases 7 s args ev_W RX25 := ⟨hx, hb, hml, hown, fun w hw => hts w (List.mem_cons_of_mem _ hw)⟩
  obtain ⟨b, As, rfl, hcell⟩ := ev_recv_ok hrc (rfl : ev_cl[21]? = some (RX25, TX25, 17)) hK hP hh hv
  exact k_runV (C := RX25) (host := "") S hM (k_ask 0 ev_Wg S.2.2.2.2 (Or.inl ⟨rfl, ev_v714⟩) ev_v651 ⟨by decide, by decide, by decide +kernel⟩ hfr hlo hce hsl) (Or.inl (S.2.2.2.2 _ ev_v715)) (S.2.2.2.2 _ ev_v716) (S.2.2.2.2 _ ev_v717) ⟨ev_blind ev_XT_ok, hcell, ev_start ev_XT_ok hXs hA hK hP hD hS hh⟩ rfl (by simpa using hlen) hsz (by simp) (lv_room hcat) dX25_aliases_42 hX
theorem k_hop8 {l : Launch} {D : va_G} {A : Nat → Prop} {ex : Nat → Value} : k_Hop l D ev_cl A ex ev_ty (ev_XT A ex) ev_y ev_b ev_nL ev_ws 133 31 127 2 (ev_recv 21) := by
  intro p e R s m args below meth c hx hb hml hown hts hXs hA hX rm hfr hlo H locs cells slots ls w tys h as vals rest hK hP hD hS hh hsz hv hlen hrc hcat hce hsl hM
  have S : CallFix p m c cX25_isReserved 2 s args ev_W RX25 := ⟨hx, hb, hml, hown, fun w hw => hts w (List.mem_cons_of_mem _ hw)⟩
  obtain ⟨b, As, rfl, hcell⟩ := ev_recv_ok hrc (rfl : ev_cl[21]? = some (RX25, TX25, 17)) hK hP hh hv
  exact k_runV (C := RX25) (host := "") S hM (k_ask 1 ev_Wg S.2.2.2.2 (Or.inl ⟨rfl, ev_v731⟩) ev_v651 ⟨by decide, by decide, by decide +kernel⟩ hfr hlo hce hsl) (Or.inl (S.2.2.2.2 _ ev_v732)) (S.2.2.2.2 _ ev_v733) (S.2.2.2.2 _ ev_v734) ⟨ev_blind ev_XT_ok, hcell, ev_start ev_XT_ok hXs hA hK hP hD hS hh⟩ rfl (by simpa using hlen) hsz (by simp) (lv_room hcat) dX25_isReserved_31 hX
theorem k_hop9 {l : Launch} {D : va_G} {A : Nat → Prop} {ex : Nat → Value} : k_Hop l D ev_cl A ex ev_ty (ev_XT A ex) ev_y ev_b ev_nL ev_ws 127 4 92 2 ev_rc1 := by
  intro p e R s m args below meth c hx hb hml hown hts hXs hA hX rm hfr hlo H locs cells slots ls w tys h as vals rest hK hP hD hS hh hsz hv hlen hrc hcat hce hsl hM
  have S : CallFix p m c cX25_begins 2 s args ev_W RX25 := ⟨hx, hb, hml, hown, fun w hw => hts w (List.mem_cons_of_mem _ hw)⟩
  exact k_runS S hM (k_ask 2 ev_Wg S.2.2.2.2 (Or.inl ⟨rfl, ev_v725⟩) ev_v429 ⟨by decide, by decide, by decide +kernel⟩ hfr hlo hce hsl) (Or.inr (va_Nw.use rfl (hXs.1 _ ev_n127))) (S.2.2.2.2 _ ev_v726) ⟨ev_blind ev_XT_ok, ev_start ev_XT_ok hXs hA hK hP hD hS hh⟩ rfl hlen hsz rfl (lv_room hcat) dX25_begins_4 hX
theorem k_hop10 {l : Launch} {D : va_G} {A : Nat → Prop} {ex : Nat → Value} : k_Hop l D ev_cl A ex ev_ty (ev_XT A ex) ev_y ev_b ev_nL ev_ws 92 28 149 2 ev_rclit := by
  intro p e R s m args below meth c hx hb hml hown hts hXs hA hX rm hfr hlo H locs cells slots ls w tys h as vals rest hK hP hD hS hh hsz hv hlen hrc hcat hce hsl hM
  have S : CallFix p m c cX28_is 3 s args ev_W RX28 := ⟨hx, hb, hml, hown, fun w hw => hts w (List.mem_cons_of_mem _ hw)⟩
  obtain ⟨j, as', rfl, b, hj, hcell⟩ := ev_rclit_ok hXs h as hrc
  obtain ⟨w0, r0, rfl, ⟨hw0, -⟩, hv2⟩ := hv
  rw [hj] at hw0
  subst hw0
  exact k_runV (C := "java/lang/String") (host := "") S hM (k_ask 1 ev_Wg S.2.2.2.2 (Or.inl ⟨rfl, ev_v342⟩) ev_v166 ⟨by decide, by decide, by decide +kernel⟩ hfr hlo hce hsl) (Or.inl (S.2.2.2.2 _ ev_v585)) (S.2.2.2.2 _ ev_v344) (S.2.2.2.2 _ ev_v345) ⟨ev_blind ev_XT_ok, hcell H locs hS, ev_start ev_XT_ok hXs hA hK hP hD hS hh⟩ rfl (by simpa using hlen) hsz (by simp) (lv_room hcat) dX28_is_28 hX
theorem k_hop11 {l : Launch} {D : va_G} {A : Nat → Prop} {ex : Nat → Value} : k_Hop l D ev_cl A ex ev_ty (ev_XT A ex) ev_y ev_b ev_nL ev_ws 149 12 154 2 ev_rc1 := by
  intro p e R s m args below meth c hx hb hml hown hts hXs hA hX rm hfr hlo H locs cells slots ls w tys h as vals rest hK hP hD hS hh hsz hv hlen hrc hcat hce hsl hM
  have S : CallFix p m c cJ0_charAt_5068e 2 s args ev_W RJ0 := ⟨hx, hb, hml, hown, fun w hw => hts w (List.mem_cons_of_mem _ hw)⟩
  exact k_runS (host := "") S hM (k_ask 2 ev_Wg S.2.2.2.2 (Or.inl ⟨rfl, ev_v805⟩) ev_v806 ⟨by decide, by decide, by decide +kernel⟩ hfr hlo hce hsl) (Or.inl (S.2.2.2.2 _ ev_v807)) (S.2.2.2.2 _ ev_v808) ⟨ev_blind ev_XT_ok, ev_start ev_XT_ok hXs hA hK hP hD hS hh⟩ rfl hlen hsz rfl (lv_room hcat) dJ0_charAt_5068e_12 hX
theorem k_hop12 {l : Launch} {D : va_G} {A : Nat → Prop} {ex : Nat → Value} : k_Hop l D ev_cl A ex ev_ty (ev_XT A ex) ev_y ev_b ev_nL ev_ws 154 3 150 2 ev_rc1 := by
  intro p e R s m args below meth c hx hb hml hown hts hXs hA hX rm hfr hlo H locs cells slots ls w tys h as vals rest hK hP hD hS hh hsz hv hlen hrc hcat hce hsl hM
  have S : CallFix p m c cJ1_charAt_3b067 2 s args ev_W RJ1 := ⟨hx, hb, hml, hown, fun w hw => hts w (List.mem_cons_of_mem _ hw)⟩
  exact k_runS (host := "") S hM (k_ask 2 ev_Wg S.2.2.2.2 (Or.inl ⟨rfl, ev_v820⟩) ev_v166 ⟨by decide, by decide, by decide +kernel⟩ hfr hlo hce hsl) (Or.inl (S.2.2.2.2 _ ev_v821)) (S.2.2.2.2 _ ev_v822) ⟨ev_blind ev_XT_ok, ev_start ev_XT_ok hXs hA hK hP hD hS hh⟩ rfl hlen hsz rfl (lv_room hcat) dJ1_charAt_3b067_3 hX
theorem k_hopZ {l : Launch} {D : va_G} {A : Nat → Prop} {ex : Nat → Value} : k_Hop0 l D ev_cl A (ev_XT A ex) ev_y ev_b ev_nL ev_ws 150 5 3 := by
  intro p e R s m args below meth c hx hb hml hown hts hXs hX H locs cells slots ls vals rest hlen
  have S : CallFix p m c cJ0_checkIndex_df160 2 s args ev_W RJ0 := ⟨hx, hb, hml, hown, fun w hw => hts w (List.mem_cons_of_mem _ hw)⟩
  exact k_runS0 S (Or.inl (S.2.2.2.2 _ ev_v810)) (S.2.2.2.2 _ ev_v811) ⟨by decide, by decide⟩ (fun sig h => by rw [show parseMethodDescriptor yJ3_checkIndex_8e157.desc = _ from rfl] at h; cases h; rfl) (S.2.2.2.2 _ ev_v812) (S.2.2.2.2 _ ev_v813) rfl hlen rfl dJ0_checkIndex_df160_5 hX
end KV53_hops
