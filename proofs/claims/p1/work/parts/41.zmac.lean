/-! A LOOP IN ONE STEP: 512 places that hold null already are set to null (TextShellModel.Table.clear). -/
theorem ev_tS_same {α : Type} : ∀ (n : Nat) (t : ev_T α n) (k : Nat) (v : α), ev_tg n t k = v → ev_tS n t k v = t
  | 0, t, k, v, h => h.symm
  | n + 1, (l, r), k, v, h => by
    have h : cond (Nat.beq (k % 2) 0) (ev_tg n l (k / 2)) (ev_tg n r (k / 2)) = v := h
    show cond (Nat.beq (k % 2) 0) (ev_tS n l (k / 2) v, r) (l, ev_tS n r (k / 2) v) = (l, r)
    cases hb : Nat.beq (k % 2) 0 with
    | true =>
      rw [hb] at h
      show (ev_tS n l (k / 2) v, r) = (l, r)
      rw [ev_tS_same n l (k / 2) v h]
    | false =>
      rw [hb] at h
      show (l, ev_tS n r (k / 2) v) = (l, r)
      rw [ev_tS_same n r (k / 2) v h]
def ev_nul : Nat → List ev_V → Bool
  | 0, l => (match l with
    | [] => true
    | _ :: _ => false)
  | n + 1, l => (match l with
    | .inr (.inr none) :: m => ev_nul n m
    | _ => false)
theorem ev_nul_ok : ∀ (n : Nat) (l : List ev_V), ev_nul n l = true → l = List.replicate n ev_null
  | 0, [], _ => rfl
  | n + 1, .inr (.inr none) :: m, h => by
    rw [List.replicate_succ, ← ev_nul_ok n m h]
def ev_mac : ev_I := fun st => match st with
  | ([], [some (.inr (.inr (some (.inl t)))), some (.inl (z, z2))], h, r) => (match ev_tg 10 h.2 t with
    | some (.inl (ci, fs)) => (match ev_lg fs 1 with
      | some (.inr (.inr (some (.inl a)))) => (match ev_tg 10 h.2 a with
        | some (.inr (tc, len, els)) => cond (decide (z = 0) && (decide (z2 = 0) && (Nat.beq ci 18 && (Nat.beq tc 16 && (Nat.beq len 512 && ev_nul 512 els))))) (some (22, ([], [some (ev_ref t), some (ev_int 512)], h, r))) none
        | _ => none)
      | _ => none)
    | _ => none)
  | _ => none
section EvMac
variable {p : Program} {l : Launch} {e : Env} {R : Room} {s : State} {m : MethodId} {args : Array Value} {below : List Frame} {meth : Method} {c : Code} {Q : State → Prop} {nL : Nat} {D : va_G} {cl : List vw_C} {A : Nat → Prop} {H0 : Heap} {ex : Nat → Value} {ad0 : List Nat} {tyOf : Nat → FieldType}
theorem ev_mac_ok (s2 : ev_Sim p l e R s m args below meth c Q nL D cl A H0 ex ad0 tyOf 2 (ev_iload 3 1)) (s3 : ev_Sim p l e R s m args below meth c Q nL D cl A H0 ex ad0 tyOf 3 (ev_push 6 (ev_int 512))) (s6 : ev_Sim p l e R s m args below meth c Q nL D cl A H0 ex ad0 tyOf 6 (ev_icmp 3 9 22)) (s9 : ev_Sim p l e R s m args below meth c Q nL D cl A H0 ex ad0 tyOf 9 (ev_aload 10 0)) (s10 : ev_Sim p l e R s m args below meth c Q nL D cl A H0 ex ad0 tyOf 10 (ev_get 13 18 1)) (s13 : ev_Sim p l e R s m args below meth c Q nL D cl A H0 ex ad0 tyOf 13 (ev_iload 14 1)) (s14 : ev_Sim p l e R s m args below meth c Q nL D cl A H0 ex ad0 tyOf 14 (ev_push 15 ev_null)) (s15 : ev_Sim p l e R s m args below meth c Q nL D cl A H0 ex ad0 tyOf 15 (ev_astq 16 16 22)) (s16 : ev_Sim p l e R s m args below meth c Q nL D cl A H0 ex ad0 tyOf 16 (ev_iinc 19 1 1)) (s19 : ev_Sim p l e R s m args below meth c Q nL D cl A H0 ex ad0 tyOf 19 (ev_goto 2)) : ev_Sim p l e R s m args below meth c Q nL D cl A H0 ex ad0 tyOf 2 ev_mac := by
  intro st pc' st' h g
  obtain ⟨stk, L, hp, r⟩ := st
  match stk, L, h with
  | [], [some (.inr (.inr (some (.inl t)))), some (.inl (z, z2))], h =>
    simp only [ev_mac] at h
    split at h
    · next ci fs hci =>
      split at h
      · next a hfa =>
        split at h
        · next tc len els hels =>
          obtain ⟨a1, h9⟩ := ev_bt1 h
          clear h
          rw [Bool.and_eq_true, Bool.and_eq_true, Bool.and_eq_true, Bool.and_eq_true, Bool.and_eq_true, decide_eq_true_eq, decide_eq_true_eq] at a1
          obtain ⟨e1, e2, e3, e4, e5, e6⟩ := a1
          have e3 := Nat.eq_of_beq_eq_true e3
          have e4 := Nat.eq_of_beq_eq_true e4
          have e5 := Nat.eq_of_beq_eq_true e5
          have e6 := ev_nul_ok 512 els e6
          subst e1 e2 e3 e4 e5 e6
          cases h9
          have loop : ∀ n i : Nat, i + n = 512 → ev_G p l e R s m args below meth c Q nL D cl A H0 ex ad0 tyOf 2 ([], [some (ev_ref t), some (ev_int (Int.ofNat i))], hp, r) := by
            intro n
            induction n with
            | zero =>
              intro i hi
              have hi2 : i = 512 := hi
              subst hi2
              exact s2 _ 3 (ev_int 512 :: [], [some (ev_ref t), some (ev_int 512)], hp, r) rfl (s3 _ 6 (ev_int 512 :: ev_int 512 :: [], [some (ev_ref t), some (ev_int 512)], hp, r) rfl (s6 _ 22 ([], [some (ev_ref t), some (ev_int 512)], hp, r) rfl g))
            | succ n ih =>
              intro i hi
              have hlt : i < 512 := by omega
              have hlt2 : (Int.ofNat i) < (512 : Int) := by
                show (i : Int) < 512
                omega
              have f6 : ev_icmp 3 9 22 (ev_int 512 :: ev_int (Int.ofNat i) :: [], [some (ev_ref t), some (ev_int (Int.ofNat i))], hp, r) = some (9, ([], [some (ev_ref t), some (ev_int (Int.ofNat i))], hp, r)) := by
                simp only [ev_icmp, ev_rel, ev_lt, decide_eq_true hlt2, cond_true, ev_not, ev_to]
              have f10 : ev_get 13 18 1 (ev_ref t :: [], [some (ev_ref t), some (ev_int (Int.ofNat i))], hp, r) = some (13, (ev_ref a :: [], [some (ev_ref t), some (ev_int (Int.ofNat i))], hp, r)) := by
                simp only [ev_get, hci, hfa]
                rfl
              have hget : (List.replicate 512 ev_null)[i]? = some ev_null := by rw [List.getElem?_replicate, if_pos hlt]
              have hset : (List.replicate 512 ev_null).set i ev_null = List.replicate 512 ev_null := by
                apply List.ext_getElem?
                intro j
                by_cases hj : i = j
                · subst hj
                  rw [List.getElem?_set_self (by rw [List.length_replicate]; exact hlt), hget]
                · rw [List.getElem?_set_ne hj]
              have f15 : ev_astq 16 16 22 (ev_null :: ev_int (Int.ofNat i) :: ev_ref a :: [], [some (ev_ref t), some (ev_int (Int.ofNat i))], hp, r) = some (16, ([], [some (ev_ref t), some (ev_int (Int.ofNat i))], hp, r)) := by
                simp only [ev_astq, hels, ev_ls_eq, ev_ts_eq]
                rw [if_pos (by rw [List.length_replicate]; exact hlt), hset, ev_tS_same 10 hp.2 a _ hels]
                rfl
              have f16 : ev_iinc 19 1 1 ([], [some (ev_ref t), some (ev_int (Int.ofNat i))], hp, r) = some (19, ([], [some (ev_ref t), some (ev_int (Int.ofNat (i + 1)))], hp, r)) := by
                have hw : ev_wr32 (Int.ofNat i + 1) = Int.ofNat (i + 1) := by
                  unfold ev_wr32
                  show Int.bmod ((i : Int) + 1) 4294967296 = ((i + 1 : Nat) : Int)
                  rw [Int.bmod_def]
                  split <;> omega
                show cond (decide (Int.ofNat i = Int.ofNat i) && true) (ev_fI (ev_wr32 (Int.ofNat i + 1)) (fun z => ev_ls [some (ev_ref t), some (ev_int (Int.ofNat i))] 1 (some (.inl (z, z))) (fun L' => some (19, ([], L', hp, r))) none)) none = _
                rw [decide_eq_true rfl, hw, ev_fI_eq]
                rfl
              exact s2 _ 3 (ev_int (Int.ofNat i) :: [], [some (ev_ref t), some (ev_int (Int.ofNat i))], hp, r) rfl (s3 _ 6 (ev_int 512 :: ev_int (Int.ofNat i) :: [], [some (ev_ref t), some (ev_int (Int.ofNat i))], hp, r) rfl (s6 _ 9 _ f6 (s9 _ 10 (ev_ref t :: [], [some (ev_ref t), some (ev_int (Int.ofNat i))], hp, r) rfl (s10 _ 13 _ f10 (s13 _ 14 (ev_int (Int.ofNat i) :: ev_ref a :: [], [some (ev_ref t), some (ev_int (Int.ofNat i))], hp, r) rfl (s14 _ 15 (ev_null :: ev_int (Int.ofNat i) :: ev_ref a :: [], [some (ev_ref t), some (ev_int (Int.ofNat i))], hp, r) rfl (s15 _ 16 _ f15 (s16 _ 19 _ f16 (s19 _ 2 ([], [some (ev_ref t), some (ev_int (Int.ofNat (i + 1)))], hp, r) rfl (ih (i + 1) (by omega)))))))))))
          exact loop 512 0 rfl
        · cases h
      · cases h
    · cases h
end EvMac
noncomputable def ev_mk (E : ev_E) (pc : Nat) : Option (ev_I ⊕ Nat) := cond (Nat.beq pc 2) (ev_oi (ev_or ev_mac (ev_iload 3 1))) (ev_m120 E pc)
theorem ev_tkc {l : Launch} {D : va_G} {A : Nat → Prop} {ex : Nat → Value} (hl0 : l.stackTraces = false) : ev_TabQ2 l D ev_cl A ex ev_ty (ev_XT A ex) ev_y ev_b ev_nL ev_ret ev_ws ev_cm ev_sm 120 ev_mk := by
  refine Or.inr ⟨by decide +kernel, ⟨ev_W, Or.inl rfl⟩, fun d E hd6 hE p e R s m args below meth c Q ad0 hx hb hml hname hown hts hXs hA hR => ?_⟩
  subst hR
  have S : CallFix p m c cX26_clear 2 s args ev_W RX26 := ⟨hx, hb, hml, hown, fun w hw => hts w (List.mem_cons_of_mem _ hw)⟩
  have K := fun (pc : Nat) (x : ev_I ⊕ Nat) => ev_code_at (P := fun pc f => ev_Sim p l e ({ frames := d + 1, cells := 0, slots := 0, locals := 64 * (d + 1) } : Room) s m args below meth c Q 2 D ev_cl A s.heap ex ad0 ev_ty pc f) (K := fun pc k => ev_stop k cX26_clear pc none) (t := [ev_r120_0 E, ev_r120_1 E, ev_r120_2 E]) ⟨ev_h120_0 hl0 hd6 hE hXs hA S hname, ⟨ev_h120_1 hl0 hd6 hE hXs hA S hname, ⟨ev_h120_2 hl0 hd6 hE hXs hA S hname, trivial⟩⟩⟩ (pc := pc) (x := x)
  refine ⟨fun pc f hf => ?_, fun pc k hk => ?_⟩
  · unfold ev_mk at hf
    cases hp : Nat.beq pc 2 with
    | true =>
      rw [hp] at hf
      have hpc : pc = 2 := Nat.eq_of_beq_eq_true hp
      subst hpc
      cases hf
      exact ev_or_ok (ev_mac_ok (K 2 (.inl (ev_iload 3 1)) rfl) (K 3 (.inl (ev_push 6 (ev_int 512))) rfl) (K 6 (.inl (ev_icmp 3 9 22)) rfl) (K 9 (.inl (ev_aload 10 0)) rfl) (K 10 (.inl (ev_get 13 18 1)) rfl) (K 13 (.inl (ev_iload 14 1)) rfl) (K 14 (.inl (ev_push 15 ev_null)) rfl) (K 15 (.inl (ev_astq 16 16 22)) rfl) (K 16 (.inl (ev_iinc 19 1 1)) rfl) (K 19 (.inl (ev_goto 2)) rfl)) (K 2 (.inl (ev_iload 3 1)) rfl)
    | false =>
      rw [hp] at hf
      exact K pc _ hf
  · unfold ev_mk at hk
    cases hp : Nat.beq pc 2 with
    | true =>
      rw [hp] at hk
      cases hk
    | false =>
      rw [hp] at hk
      exact K pc _ hk
theorem ev_ntk {l : Launch} {A : Nat → Prop} {ex : Nat → Value} : ev_TabXQ2 l A (ev_XT A ex) ev_y ev_b ev_nL ev_ws ev_cm ev_sm ev_xn 120 ev_mk := by
  intro d E pc k hd hk hx
  unfold ev_mk at hx
  cases hp : Nat.beq pc 2 with
  | true =>
    rw [hp] at hx
    cases hx
  | false =>
    rw [hp] at hx
    exact ev_nt120 d E pc k hd hk hx
noncomputable def ev_ms2 : List (ev_E → Nat → Option (ev_I ⊕ Nat)) := [ev_m0, ev_m1, ev_m2, ev_m3, ev_m4, ev_m5, ev_m6, ev_m7, ev_m8, ev_m9, ev_m10, ev_m11, ev_m12, ev_m13, ev_m14, ev_m15, ev_m16, ev_m17, ev_m18, ev_m19, ev_m20, ev_m21, ev_m22, ev_m23, ev_m24, ev_m25, ev_m26, ev_m27, ev_m28, ev_m29, ev_m30, ev_m31, ev_m32, ev_m33, ev_m34, ev_m35, ev_m36, ev_m37, ev_m38, ev_m39, ev_m40, ev_m41, ev_m42, ev_m43, ev_m44, ev_m45, ev_m46, ev_m47, ev_m48, ev_m49, ev_m50, ev_m51, ev_m52, ev_m53, ev_m54, ev_m55, ev_m56, ev_m57, ev_m58, ev_m59, ev_m60, ev_m61, ev_m62, ev_m63, ev_m64, ev_m65, ev_m66, ev_mz, ev_mz, ev_mz, ev_mz, ev_mz, ev_mz, ev_mz, ev_m74, ev_m75, ev_m76, ev_m77, ev_m78, ev_m79, ev_m80, ev_m81, ev_m82, ev_m83, ev_m84, ev_m85, ev_m86, ev_m87, ev_m88, ev_m89, ev_m90, ev_m91, ev_m92, ev_m93, ev_m94, ev_m95, ev_m96, ev_m97, ev_m98, ev_m99, ev_m100, ev_m101, ev_m102, ev_m103, ev_m104, ev_m105, ev_m106, ev_m107, ev_m108, ev_m109, ev_m110, ev_m111, ev_m112, ev_m113, ev_m114, ev_m115, ev_m116, ev_m117, ev_m118, ev_m119, ev_mk, ev_m121, ev_m122, ev_m123, ev_m124, ev_m125, ev_m126, ev_m127, ev_m128, ev_m129, ev_m130, ev_m131]
noncomputable def ev_mc2 (mid : Nat) (E : ev_E) (pc : Nat) : Option (ev_I ⊕ Nat) := match ev_lg ev_ms2 mid with
  | some f => f E pc
  | none => none
theorem ev_tall2 {l : Launch} {D : va_G} {A : Nat → Prop} {ex : Nat → Value} (hl0 : l.stackTraces = false) : ev_Tab2 l D ev_cl A ex ev_ty (ev_XT A ex) ev_y ev_b ev_nL ev_ret ev_ws ev_cm ev_sm ev_mc2 :=
  ev_tab_of2 (ms := ev_ms2) (fun mid E pc => rfl) (ev_ac (ev_t0 hl0) (ev_ac (ev_t1 hl0) (ev_ac (ev_t2 hl0) (ev_ac (ev_t3 hl0) (ev_ac (ev_t4 hl0) (ev_ac (ev_t5 hl0) (ev_ac (ev_t6 hl0) (ev_ac (ev_t7 hl0) (ev_ac (ev_t8 hl0) (ev_ac (ev_t9 hl0) (ev_ac (ev_t10 hl0) (ev_ac (ev_t11 hl0) (ev_ac (ev_t12 hl0) (ev_ac (ev_t13 hl0) (ev_ac (ev_t14 hl0) (ev_ac (ev_t15 hl0) (ev_ac (ev_t16 hl0) (ev_ac (ev_t17 hl0) (ev_ac (ev_t18 hl0) (ev_ac (ev_t19 hl0) (ev_ac (ev_t20 hl0) (ev_ac (ev_t21 hl0) (ev_ac (ev_t22 hl0) (ev_ac (ev_t23 hl0) (ev_ac (ev_t24 hl0) (ev_ac (ev_t25 hl0) (ev_ac (ev_t26 hl0) (ev_ac (ev_t27 hl0) (ev_ac (ev_t28 hl0) (ev_ac (ev_t29 hl0) (ev_ac (ev_t30 hl0) (ev_ac (ev_t31 hl0) (ev_ac (ev_t32 hl0) (ev_ac (ev_t33 hl0) (ev_ac (ev_t34 hl0) (ev_ac (ev_t35 hl0) (ev_ac (ev_t36 hl0) (ev_ac (ev_t37 hl0) (ev_ac (ev_t38 hl0) (ev_ac (ev_t39 hl0) (ev_ac (ev_t40 hl0) (ev_ac (ev_t41 hl0) (ev_ac (ev_t42 hl0) (ev_ac (ev_t43 hl0) (ev_ac (ev_t44 hl0) (ev_ac (ev_t45 hl0) (ev_ac (ev_t46 hl0) (ev_ac (ev_t47 hl0) (ev_ac (ev_t48 hl0) (ev_ac (ev_t49 hl0) (ev_ac (ev_t50 hl0) (ev_ac (ev_t51 hl0) (ev_ac (ev_t52 hl0) (ev_ac (ev_t53 hl0) (ev_ac (ev_t54 hl0) (ev_ac (ev_t55 hl0) (ev_ac (ev_t56 hl0) (ev_ac (ev_t57 hl0) (ev_ac (ev_t58 hl0) (ev_ac (ev_t59 hl0) (ev_ac (ev_t60 hl0) (ev_ac (ev_t61 hl0) (ev_ac (ev_t62 hl0) (ev_ac (ev_t63 hl0) (ev_ac (ev_t64 hl0) (ev_ac (ev_t65 hl0) (ev_ac (ev_t66 hl0) (ev_ac (Or.inl fun _ _ => rfl) (ev_ac (Or.inl fun _ _ => rfl) (ev_ac (Or.inl fun _ _ => rfl) (ev_ac (Or.inl fun _ _ => rfl) (ev_ac (Or.inl fun _ _ => rfl) (ev_ac (Or.inl fun _ _ => rfl) (ev_ac (Or.inl fun _ _ => rfl) (ev_ac (ev_t74 hl0) (ev_ac (ev_t75 hl0) (ev_ac (ev_t76 hl0) (ev_ac (ev_t77 hl0) (ev_ac (ev_t78 hl0) (ev_ac (ev_t79 hl0) (ev_ac (ev_t80 hl0) (ev_ac (ev_t81 hl0) (ev_ac (ev_t82 hl0) (ev_ac (ev_t83 hl0) (ev_ac (ev_t84 hl0) (ev_ac (ev_t85 hl0) (ev_ac (ev_t86 hl0) (ev_ac (ev_t87 hl0) (ev_ac (ev_t88 hl0) (ev_ac (ev_t89 hl0) (ev_ac (ev_t90 hl0) (ev_ac (ev_t91 hl0) (ev_ac (ev_t92 hl0) (ev_ac (ev_t93 hl0) (ev_ac (ev_t94 hl0) (ev_ac (ev_t95 hl0) (ev_ac (ev_t96 hl0) (ev_ac (ev_t97 hl0) (ev_ac (ev_t98 hl0) (ev_ac (ev_t99 hl0) (ev_ac (ev_t100 hl0) (ev_ac (ev_t101 hl0) (ev_ac (ev_t102 hl0) (ev_ac (ev_t103 hl0) (ev_ac (ev_t104 hl0) (ev_ac (ev_t105 hl0) (ev_ac (ev_t106 hl0) (ev_ac (ev_t107 hl0) (ev_ac (ev_t108 hl0) (ev_ac (ev_t109 hl0) (ev_ac (ev_t110 hl0) (ev_ac (ev_t111 hl0) (ev_ac (ev_t112 hl0) (ev_ac (ev_t113 hl0) (ev_ac (ev_t114 hl0) (ev_ac (ev_t115 hl0) (ev_ac (ev_t116 hl0) (ev_ac (ev_t117 hl0) (ev_ac (ev_t118 hl0) (ev_ac (ev_t119 hl0) (ev_ac (ev_tkc hl0) (ev_ac (ev_t121 hl0) (ev_ac (ev_t122 hl0) (ev_ac (ev_t123 hl0) (ev_ac (ev_t124 hl0) (ev_ac (ev_t125 hl0) (ev_ac (ev_t126 hl0) (ev_ac (ev_t127 hl0) (ev_ac (ev_t128 hl0) (ev_ac (ev_t129 hl0) (ev_ac (ev_t130 hl0) (ev_ac (ev_t131 hl0) (ev_az)))))))))))))))))))))))))))))))))))))))))))))))))))))))))))))))))))))))))))))))))))))))))))))))))))))))))))))))))))))))))))))))))))))
theorem ev_txall2 {l : Launch} {D : va_G} {A : Nat → Prop} {ex : Nat → Value} (hl0 : l.stackTraces = false) : ev_TabX2 l D ev_cl A ex ev_ty (ev_XT A ex) ev_y ev_b ev_nL ev_ws ev_cm ev_sm ev_mc2 ev_xn :=
  ev_tabX_of2 (ms := ev_ms2) (fun mid E pc => rfl) (ev_ac (ev_nt0) (ev_ac (ev_tx1 hl0) (ev_ac (ev_nt2) (ev_ac (ev_nt3) (ev_ac (ev_nt4) (ev_ac (ev_nt5) (ev_ac (ev_nt6) (ev_ac (ev_nt7) (ev_ac (ev_tx8 hl0) (ev_ac (ev_tx9 hl0) (ev_ac (ev_tx10 hl0) (ev_ac (ev_nt11) (ev_ac (ev_tx12 hl0) (ev_ac (ev_nt13) (ev_ac (ev_tx14 hl0) (ev_ac (ev_nt15) (ev_ac (ev_nt16) (ev_ac (ev_nt17) (ev_ac (ev_nt18) (ev_ac (ev_nt19) (ev_ac (ev_nt20) (ev_ac (ev_nt21) (ev_ac (ev_nt22) (ev_ac (ev_nt23) (ev_ac (ev_nt24) (ev_ac (ev_nt25) (ev_ac (ev_nt26) (ev_ac (ev_nt27) (ev_ac (ev_nt28) (ev_ac (ev_nt29) (ev_ac (ev_nt30) (ev_ac (ev_nt31) (ev_ac (ev_nt32) (ev_ac (ev_nt33) (ev_ac (ev_nt34) (ev_ac (ev_nt35) (ev_ac (ev_nt36) (ev_ac (ev_nt37) (ev_ac (ev_nt38) (ev_ac (ev_nt39) (ev_ac (ev_nt40) (ev_ac (ev_nt41) (ev_ac (ev_nt42) (ev_ac (ev_nt43) (ev_ac (ev_nt44) (ev_ac (ev_nt45) (ev_ac (ev_nt46) (ev_ac (ev_nt47) (ev_ac (ev_nt48) (ev_ac (ev_nt49) (ev_ac (ev_nt50) (ev_ac (ev_nt51) (ev_ac (ev_nt52) (ev_ac (ev_nt53) (ev_ac (ev_nt54) (ev_ac (ev_nt55) (ev_ac (ev_nt56) (ev_ac (ev_nt57) (ev_ac (ev_nt58) (ev_ac (ev_nt59) (ev_ac (ev_nt60) (ev_ac (ev_nt61) (ev_ac (ev_nt62) (ev_ac (ev_nt63) (ev_ac (ev_nt64) (ev_ac (ev_nt65) (ev_ac (ev_nt66) (ev_ac (ev_xno2 (fun _ _ => rfl)) (ev_ac (ev_xno2 (fun _ _ => rfl)) (ev_ac (ev_xno2 (fun _ _ => rfl)) (ev_ac (ev_xno2 (fun _ _ => rfl)) (ev_ac (ev_xno2 (fun _ _ => rfl)) (ev_ac (ev_xno2 (fun _ _ => rfl)) (ev_ac (ev_xno2 (fun _ _ => rfl)) (ev_ac (ev_nt74) (ev_ac (ev_nt75) (ev_ac (ev_nt76) (ev_ac (ev_nt77) (ev_ac (ev_nt78) (ev_ac (ev_nt79) (ev_ac (ev_nt80) (ev_ac (ev_nt81) (ev_ac (ev_nt82) (ev_ac (ev_nt83) (ev_ac (ev_nt84) (ev_ac (ev_nt85) (ev_ac (ev_nt86) (ev_ac (ev_nt87) (ev_ac (ev_nt88) (ev_ac (ev_nt89) (ev_ac (ev_nt90) (ev_ac (ev_nt91) (ev_ac (ev_nt92) (ev_ac (ev_nt93) (ev_ac (ev_nt94) (ev_ac (ev_nt95) (ev_ac (ev_nt96) (ev_ac (ev_nt97) (ev_ac (ev_nt98) (ev_ac (ev_nt99) (ev_ac (ev_nt100) (ev_ac (ev_nt101) (ev_ac (ev_nt102) (ev_ac (ev_nt103) (ev_ac (ev_nt104) (ev_ac (ev_nt105) (ev_ac (ev_nt106) (ev_ac (ev_nt107) (ev_ac (ev_nt108) (ev_ac (ev_nt109) (ev_ac (ev_nt110) (ev_ac (ev_nt111) (ev_ac (ev_nt112) (ev_ac (ev_nt113) (ev_ac (ev_nt114) (ev_ac (ev_nt115) (ev_ac (ev_nt116) (ev_ac (ev_nt117) (ev_ac (ev_nt118) (ev_ac (ev_nt119) (ev_ac ev_ntk (ev_ac (ev_nt121) (ev_ac (ev_nt122) (ev_ac (ev_nt123) (ev_ac (ev_nt124) (ev_ac (ev_nt125) (ev_ac (ev_nt126) (ev_ac (ev_nt127) (ev_ac (ev_nt128) (ev_ac (ev_nt129) (ev_ac (ev_nt130) (ev_ac (ev_nt131) (ev_az)))))))))))))))))))))))))))))))))))))))))))))))))))))))))))))))))))))))))))))))))))))))))))))))))))))))))))))))))))))))))))))))))))))
