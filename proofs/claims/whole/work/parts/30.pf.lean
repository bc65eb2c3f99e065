/-! THE PROOFS OF THE TABLES (printed by wip/ev/pf.py). -/
def ev_cl : List vw_C := [(RX6, TX6, 2), (RX12, TX12, 10), (RX2, TX2, 21), (RX5, TX5, 22), (RX7, TX7, 24), (RX0, TX0, 22), (RX10, TX10, 18), (RX8, TX8, 9), (RX4, TX4, 12), (RX9, TX9, 11), (RX1, TX1, 19), (RX3, TX3, 10), (RX11, TX11, 15), (RX28, TX28, 104), (RX14, TX14, 2), (RX21, TX21, 7), (RJx4a65c, TJx4a65c, 3), (RX26, TX26, 4), (RX22, TX22, 5), (RX25, TX25, 17), (RX19, TX19, 8), (RX18, TX18, 8)]
def ev_tys : List FieldType := [.object "TextShell$Stream", .int, .object "TextShell$Row", .object "TextShell$Node", .object "TextShell$Name", .char, .object "TextShell$Frame", .object "TextShell$Tree", .long, .boolean, .array .byte, .byte, .object "TextShellModel$Open", .object "TextShellModel$Cmd", .array .int, .object "TextShellModel$Node", .object "TextShellModel$Entry"]
def ev_ty (i : Nat) : FieldType := match ev_lg ev_tys i with
  | some t => t
  | none => .int
def ev_w120 : List Cond := [.fieldLink RX26 18 "TextShellModel$Table" "heads" "[LTextShellModel$Entry;", .fieldLink RX26 45 "TextShellModel$Table" "many" "I", .fieldLink RX26 49 "TextShellModel$Table" "fixed" "I"]
def ev_Ws : List (List Cond) := [[], [], [], [], [], [], [], [], [], [], [], [], [], [], [], [], [], [], [], [], [], [], [], [], [], [], [], [], [], [], [], [], [], [], [], [], [], [], [], [], [], [], [], [], [], [], [], [], [], [], [], [], [], [], [], [], [], [], [], [], [], [], [], [], [], [], [], [], [], [], [], [], [], [], [], [], [], [], [], [], [], [], [], [], [], [], [], [], [], [], [], [], [], [], [], [], [], [], [], [], [], [], [], [], [], [], [], [], [], [], [], [], [], [], [], [], [], [], [], [], ev_w120, [], [], [], [], [], [], [], [], [], [], [], u_ws RX6 TX6 2, u_ws RX12 TX12 10, u_ws RX2 TX2 21, u_ws RX5 TX5 22, u_ws RX7 TX7 24, u_ws RX0 TX0 22, u_ws RX10 TX10 18, u_ws RX8 TX8 9, u_ws RX4 TX4 12, u_ws RX9 TX9 11, u_ws RX1 TX1 19, u_ws RX3 TX3 10, u_ws RX11 TX11 15, u_ws RX28 TX28 104, u_ws RX14 TX14 2, u_ws RX21 TX21 7, u_ws RJx4a65c TJx4a65c 3, u_ws RX26 TX26 4, u_ws RX22 TX22 5, u_ws RX25 TX25 17, u_ws RX19 TX19 8, u_ws RX18 TX18 8]
def ev_W : List Cond := ev_Ws.flatten
theorem ev_wm {a i : Nat} {r : List Cond} {w : Cond} (h1 : ev_Ws[a]? = some r) (h2 : r[i]? = some w) : w ∈ ev_W := List.mem_flatten.mpr ⟨r, List.mem_of_getElem? h1, List.mem_of_getElem? h2⟩
theorem ev_wmL {a : Nat} {r : List Cond} (h1 : ev_Ws[a]? = some r) : ∀ w ∈ r, w ∈ ev_W := fun w h => List.mem_flatten.mpr ⟨r, List.mem_of_getElem? h1, h⟩
theorem inW_X6 : ∀ w ∈ u_ws RX6 TX6 2, w ∈ ev_W := ev_wmL (a := 132) rfl
theorem inW_X12 : ∀ w ∈ u_ws RX12 TX12 10, w ∈ ev_W := ev_wmL (a := 133) rfl
theorem inW_X2 : ∀ w ∈ u_ws RX2 TX2 21, w ∈ ev_W := ev_wmL (a := 134) rfl
theorem inW_X5 : ∀ w ∈ u_ws RX5 TX5 22, w ∈ ev_W := ev_wmL (a := 135) rfl
theorem inW_X7 : ∀ w ∈ u_ws RX7 TX7 24, w ∈ ev_W := ev_wmL (a := 136) rfl
theorem inW_X0 : ∀ w ∈ u_ws RX0 TX0 22, w ∈ ev_W := ev_wmL (a := 137) rfl
theorem inW_X10 : ∀ w ∈ u_ws RX10 TX10 18, w ∈ ev_W := ev_wmL (a := 138) rfl
theorem inW_X8 : ∀ w ∈ u_ws RX8 TX8 9, w ∈ ev_W := ev_wmL (a := 139) rfl
theorem inW_X4 : ∀ w ∈ u_ws RX4 TX4 12, w ∈ ev_W := ev_wmL (a := 140) rfl
theorem inW_X9 : ∀ w ∈ u_ws RX9 TX9 11, w ∈ ev_W := ev_wmL (a := 141) rfl
theorem inW_X1 : ∀ w ∈ u_ws RX1 TX1 19, w ∈ ev_W := ev_wmL (a := 142) rfl
theorem inW_X3 : ∀ w ∈ u_ws RX3 TX3 10, w ∈ ev_W := ev_wmL (a := 143) rfl
theorem inW_X11 : ∀ w ∈ u_ws RX11 TX11 15, w ∈ ev_W := ev_wmL (a := 144) rfl
theorem inW_X28 : ∀ w ∈ u_ws RX28 TX28 104, w ∈ ev_W := ev_wmL (a := 145) rfl
theorem inW_X14 : ∀ w ∈ u_ws RX14 TX14 2, w ∈ ev_W := ev_wmL (a := 146) rfl
theorem inW_X21 : ∀ w ∈ u_ws RX21 TX21 7, w ∈ ev_W := ev_wmL (a := 147) rfl
theorem inW_Jx4a65c : ∀ w ∈ u_ws RJx4a65c TJx4a65c 3, w ∈ ev_W := ev_wmL (a := 148) rfl
theorem inW_X26 : ∀ w ∈ u_ws RX26 TX26 4, w ∈ ev_W := ev_wmL (a := 149) rfl
theorem inW_X22 : ∀ w ∈ u_ws RX22 TX22 5, w ∈ ev_W := ev_wmL (a := 150) rfl
theorem inW_X25 : ∀ w ∈ u_ws RX25 TX25 17, w ∈ ev_W := ev_wmL (a := 151) rfl
theorem inW_X19 : ∀ w ∈ u_ws RX19 TX19 8, w ∈ ev_W := ev_wmL (a := 152) rfl
theorem inW_X18 : ∀ w ∈ u_ws RX18 TX18 8, w ∈ ev_W := ev_wmL (a := 153) rfl
theorem ev_h120_0 {p : Program} {l : Launch} {e : Env} {R : Room} {s : State} {m : MethodId} {args : Array Value} {below : List Frame} {meth : Method} {c : Code} {Q : State → Prop} {D : va_G} {A : Nat → Prop} {ex : Nat → Value} {ad0 : List Nat} (E : ev_E) (S : CallFix p m c cX26_clear 2 s args ev_W RX26) (hname : meth.name = "clear") : ev_okR (fun pc f => ev_Sim p l e R s m args below meth c Q 2 D ev_cl A s.heap ex ad0 ev_ty pc f) (fun pc k => ev_stop k cX26_clear pc none) 0 (ev_r120_0 E) :=
  ev_pc (ev_iconst_ok S.1 S.2.1 dX26_clear_0 rfl rfl) (ev_pc (ev_istore_n_ok S.1 S.2.1 dX26_clear_1 rfl) (ev_pc (ev_iload_n_ok S.1 S.2.1 dX26_clear_2 rfl) (ev_pc (ev_sipush_ok S.1 S.2.1 dX26_clear_3 rfl rfl) (ev_pn (ev_pn (ev_pc (ev_icmp_ge_ok S.1 S.2.1 dX26_clear_6 rfl) (ev_pn (ev_pn (ev_pc (ev_aload_n_ok S.1 S.2.1 dX26_clear_9 rfl) (ev_pc (ev_get_ok (ref := "TextShellModel$Table") S.1 S.2.1 S.2.2.2.2 inW_X26 S.2.2.2.1 (hc := (rfl : ev_cl[17]? = some (RX26, TX26, 4))) (j := 1) (by decide) (S.2.2.2.2 _ (ev_wm (a := 120) (i := 0) (r := ev_w120) rfl rfl)) (fun _ h => h) dX26_clear_10) (ev_pn (ev_pn (ev_pc (ev_iload_n_ok S.1 S.2.1 dX26_clear_13 rfl) (ev_pc (ev_null_ok S.1 S.2.1 dX26_clear_14) (ev_pc (ev_astq_ok S.1 S.2.1 rfl rfl dX26_clear_15) (ev_pz))))))))))))))))
theorem ev_h120_1 {p : Program} {l : Launch} {e : Env} {R : Room} {s : State} {m : MethodId} {args : Array Value} {below : List Frame} {meth : Method} {c : Code} {Q : State → Prop} {D : va_G} {A : Nat → Prop} {ex : Nat → Value} {ad0 : List Nat} (E : ev_E) (S : CallFix p m c cX26_clear 2 s args ev_W RX26) (hname : meth.name = "clear") : ev_okR (fun pc f => ev_Sim p l e R s m args below meth c Q 2 D ev_cl A s.heap ex ad0 ev_ty pc f) (fun pc k => ev_stop k cX26_clear pc none) 16 (ev_r120_1 E) :=
  ev_pc (ev_iinc_ok S.1 S.2.1 dX26_clear_16 rfl) (ev_pn (ev_pn (ev_pc (ev_goto_ok S.1 S.2.1 dX26_clear_19 rfl) (ev_pn (ev_pn (ev_pc (ev_aload_n_ok S.1 S.2.1 dX26_clear_22 rfl) (ev_pc (ev_iconst_ok S.1 S.2.1 dX26_clear_23 rfl rfl) (ev_pc (ev_put_ok (ref := "TextShellModel$Table") S.1 S.2.1 S.2.2.2.2 inW_X26 tyX26 tyX26_ok nmX26 S.2.2.2.1 (hc := (rfl : ev_cl[17]? = some (RX26, TX26, 4))) (j := 2) (by decide) (S.2.2.2.2 _ (ev_wm (a := 120) (i := 1) (r := ev_w120) rfl rfl)) (fun _ h => h) rfl rfl dX26_clear_24) (ev_pn (ev_pn (ev_pc (ev_aload_n_ok S.1 S.2.1 dX26_clear_27 rfl) (ev_pc (ev_iconst_ok S.1 S.2.1 dX26_clear_28 rfl rfl) (ev_pc (ev_put_ok (ref := "TextShellModel$Table") S.1 S.2.1 S.2.2.2.2 inW_X26 tyX26 tyX26_ok nmX26 S.2.2.2.1 (hc := (rfl : ev_cl[17]? = some (RX26, TX26, 4))) (j := 3) (by decide) (S.2.2.2.2 _ (ev_wm (a := 120) (i := 2) (r := ev_w120) rfl rfl)) (fun _ h => h) rfl rfl dX26_clear_29) (ev_pn (ev_pn (ev_pz))))))))))))))))
theorem ev_h120_2 {p : Program} {l : Launch} {e : Env} {R : Room} {s : State} {m : MethodId} {args : Array Value} {below : List Frame} {meth : Method} {c : Code} {Q : State → Prop} {D : va_G} {A : Nat → Prop} {ex : Nat → Value} {ad0 : List Nat} (E : ev_E) (S : CallFix p m c cX26_clear 2 s args ev_W RX26) (hname : meth.name = "clear") : ev_okR (fun pc f => ev_Sim p l e R s m args below meth c Q 2 D ev_cl A s.heap ex ad0 ev_ty pc f) (fun pc k => ev_stop k cX26_clear pc none) 32 (ev_r120_2 E) :=
  ev_ps ⟨dX26_clear_32, rfl⟩ (ev_pn (ev_pn (ev_pn (ev_pn (ev_pn (ev_pn (ev_pn (ev_pn (ev_pn (ev_pn (ev_pn (ev_pn (ev_pn (ev_pn (ev_pn (ev_pz))))))))))))))))
