/-! THE LAW'S START: what is said of things outside holds there; the walk. -/
theorem dL_law_33 : decode cL_law 33 = .ok (.aload_n 0, 1) := by decide +kernel
theorem dL_law_34 : decode cL_law 34 = .ok (.iload 4, 2) := by decide +kernel
theorem dL_law_36 : decode cL_law 36 = .ok (.iaload, 1) := by decide +kernel
theorem dL_law_37 : decode cL_law 37 = .ok (.bipush 15, 2) := by decide +kernel
theorem dL_law_39 : decode cL_law 39 = .ok (.iand, 1) := by decide +kernel
theorem dL_law_40 : decode cL_law 40 = .ok (.tableswitch 566 0 10 #[60, 133, 189, 233, 289, 325, 412, 480, 517, 530, 541], 60) := by decide +kernel
theorem dL_law_613 : decode cL_law 613 = .ok (.ireturn, 1) := by decide +kernel
def ev_cvB : Int → List (Int × Int) → Bool
  | lo, [] => decide (2147483647 < lo)
  | lo, (a, b) :: C => decide (a ≤ lo) && ev_cvB (b + 1) C
theorem ev_cov : ∀ (C : List (Int × Int)) (lo : Int), ev_cvB lo C = true → ∀ x : Int, lo ≤ x → x ≤ 2147483647 → ∃ c ∈ C, c.1 ≤ x ∧ x ≤ c.2
  | [], lo, h, x, h1, h2 => by
    have h : decide (2147483647 < lo) = true := h
    rw [decide_eq_true_eq] at h
    omega
  | (a, b) :: C, lo, h, x, h1, h2 => by
    have h : (decide (a ≤ lo) && ev_cvB (b + 1) C) = true := h
    rw [Bool.and_eq_true, decide_eq_true_eq] at h
    by_cases hb : x ≤ b
    · exact ⟨(a, b), List.mem_cons_self, Int.le_trans h.1 h1, hb⟩
    · obtain ⟨c, hc, hx⟩ := ev_cov C (b + 1) h.2 x (by omega) h2
      exact ⟨c, List.mem_cons_of_mem _ hc, hx⟩
theorem ev_box_ok {C1 C2 C3 C4 C5 : List (Int × Int)} {f : List (Int × Int) → Bool} (h : ev_box C1 C2 C3 C4 C5 f = true) (h1 : ev_cvB (-2147483648) C1 = true) (h2 : ev_cvB (-2147483648) C2 = true) (h3 : ev_cvB (-2147483648) C3 = true) (h4 : ev_cvB (-2147483648) C4 = true) (h5 : ev_cvB (-2147483648) C5 = true) (xs : Nat → Int32) :
    ∃ bx : List (Int × Int), f bx = true ∧ ∀ (i : Nat) (v : Int × Int), bx[i]? = some v → i < 6 ∧ v.1 ≤ (xs i).toInt ∧ (xs i).toInt ≤ v.2 := by
  have key : ∀ {C : List (Int × Int)} (i : Nat), ev_cvB (-2147483648) C = true → ∃ c ∈ C, c.1 ≤ (xs i).toInt ∧ (xs i).toInt ≤ c.2 := fun i hC => ev_cov _ _ hC _ (ev_in (xs i)).1 (ev_in (xs i)).2
  obtain ⟨c1, m1, q1⟩ := key 1 h1
  obtain ⟨c2, m2, q2⟩ := key 2 h2
  obtain ⟨c3, m3, q3⟩ := key 3 h3
  obtain ⟨c4, m4, q4⟩ := key 4 h4
  obtain ⟨c5, m5, q5⟩ := key 5 h5
  refine ⟨[(-2147483648, 2147483647), c1, c2, c3, c4, c5], ?_, ?_⟩
  · have a1 := List.all_eq_true.mp h c1 m1
    have a2 := List.all_eq_true.mp a1 c2 m2
    have a3 := List.all_eq_true.mp a2 c3 m3
    have a4 := List.all_eq_true.mp a3 c4 m4
    exact List.all_eq_true.mp a4 c5 m5
  · intro i v hv
    match i, hv with
    | 0, hv => cases hv; exact ⟨by decide, ev_in (xs 0)⟩
    | 1, hv => cases hv; exact ⟨by decide, q1⟩
    | 2, hv => cases hv; exact ⟨by decide, q2⟩
    | 3, hv => cases hv; exact ⟨by decide, q3⟩
    | 4, hv => cases hv; exact ⟨by decide, q4⟩
    | 5, hv => cases hv; exact ⟨by decide, q5⟩
    | i + 6, hv => simp at hv
theorem ev_Rall (xs : Nat → Int32) : ∀ z : Nat, z < 16 → ∃ bx : List (Int × Int), ev_go z bx = true ∧ ∀ (i : Nat) (v : Int × Int), bx[i]? = some v → i < 6 ∧ v.1 ≤ (xs i).toInt ∧ (xs i).toInt ≤ v.2
  | 0, _ => ev_box_ok ev_R0 (by decide +kernel) (by decide +kernel) (by decide +kernel) (by decide +kernel) (by decide +kernel) xs
  | 1, _ => ev_box_ok ev_R1 (by decide +kernel) (by decide +kernel) (by decide +kernel) (by decide +kernel) (by decide +kernel) xs
  | 2, _ => ev_box_ok ev_R2 (by decide +kernel) (by decide +kernel) (by decide +kernel) (by decide +kernel) (by decide +kernel) xs
  | 3, _ => ev_box_ok ev_R3 (by decide +kernel) (by decide +kernel) (by decide +kernel) (by decide +kernel) (by decide +kernel) xs
  | 4, _ => ev_box_ok ev_R4 (by decide +kernel) (by decide +kernel) (by decide +kernel) (by decide +kernel) (by decide +kernel) xs
  | 5, _ => ev_box_ok ev_R5 (by decide +kernel) (by decide +kernel) (by decide +kernel) (by decide +kernel) (by decide +kernel) xs
  | 6, _ => ev_box_ok ev_R6 (by decide +kernel) (by decide +kernel) (by decide +kernel) (by decide +kernel) (by decide +kernel) xs
  | 7, _ => ev_box_ok ev_R7 (by decide +kernel) (by decide +kernel) (by decide +kernel) (by decide +kernel) (by decide +kernel) xs
  | 8, _ => ev_box_ok ev_R8 (by decide +kernel) (by decide +kernel) (by decide +kernel) (by decide +kernel) (by decide +kernel) xs
  | 9, _ => ev_box_ok ev_R9 (by decide +kernel) (by decide +kernel) (by decide +kernel) (by decide +kernel) (by decide +kernel) xs
  | 10, _ => ev_box_ok ev_R10 (by decide +kernel) (by decide +kernel) (by decide +kernel) (by decide +kernel) (by decide +kernel) xs
  | 11, _ => ev_box_ok (f := ev_go 11) ev_R11 (by decide +kernel) (by decide +kernel) (by decide +kernel) (by decide +kernel) (by decide +kernel) xs
  | 12, _ => ev_box_ok (f := ev_go 12) ev_R11 (by decide +kernel) (by decide +kernel) (by decide +kernel) (by decide +kernel) (by decide +kernel) xs
  | 13, _ => ev_box_ok (f := ev_go 13) ev_R11 (by decide +kernel) (by decide +kernel) (by decide +kernel) (by decide +kernel) (by decide +kernel) xs
  | 14, _ => ev_box_ok (f := ev_go 14) ev_R11 (by decide +kernel) (by decide +kernel) (by decide +kernel) (by decide +kernel) (by decide +kernel) xs
  | 15, _ => ev_box_ok (f := ev_go 15) ev_R11 (by decide +kernel) (by decide +kernel) (by decide +kernel) (by decide +kernel) (by decide +kernel) xs
  | n + 16, h => absurd h (by omega)
theorem ev_e0_none : ∀ (n k : Nat), ev_tg n (ev_e0 n) k = none
  | 0, _ => rfl
  | n + 1, k => by
    show cond (Nat.beq (k % 2) 0) (ev_tg n (ev_e0 n) (k / 2)) (ev_tg n (ev_e0 n) (k / 2)) = none
    rw [ev_e0_none n]
    cases Nat.beq (k % 2) 0 <;> rfl
/-- a literal, out of what is given of it -/
theorem ev_lit1 {args : Array Value} {s : State} {tm : Term} {l : List Int} {A : Nat → Prop} (hN : l.length < 2 ^ 31) (h : ∀ w ∈ ev_lc tm l, w.before args s = true) (hA : ∀ a : Nat, a < s.heap.size → ¬ A a) :
    ∃ q : Nat × Nat, tm.eval args s none [] s = some (.ref q.1) ∧ va_O "java/lang/String" q.1 A s s.heap ∧ va_OF "java/lang/String" "coder" "B" (.int 0) q.1 A s s.heap ∧ va_OF "java/lang/String" "value" "[B" (.ref q.2) q.1 A s s.heap ∧ va_T .byte q.2 l.length (fun i => .int (Int32.ofInt (l.getD i 0))) A s s.heap := by
  have hex : (Cond.exactly tm "java/lang/String").before args s = true := h _ (by simp [ev_lc])
  have hco : (Cond.eq (.field tm "java/lang/String" "coder" "B") (.int 0)).before args s = true := h _ (by simp [ev_lc])
  have har : (Cond.arrayOf (ev_lv tm) .byte).before args s = true := h _ (by simp [ev_lc])
  have hle : (Cond.eq (.length (ev_lv tm)) (.int (Int32.ofNat l.length))).before args s = true := h _ (by simp [ev_lc])
  have hel : ∀ j : Nat, j < l.length → (Cond.eq (.elem (ev_lv tm) (.int (Int32.ofNat j))) (.int (Int32.ofInt (l.getD j 0)))).before args s = true := fun j hj => h _ (by
    unfold ev_lc
    refine List.mem_cons_of_mem _ (List.mem_cons_of_mem _ (List.mem_cons_of_mem _ (List.mem_cons_of_mem _ ?_)))
    exact List.mem_map.mpr ⟨j, List.mem_range.mpr hj, rfl⟩)
  obtain ⟨a, c, cA, kA, q1, q2, q3, q4, q5, q6, -⟩ := Cond.exactly_spec (args := args) (first := s) (o := none) (s := s) (idx := []) (t := tm) (cls := "java/lang/String") hex
  obtain ⟨t, ht, hT⟩ := va_Tof (f := fun j => .int (Int32.ofInt (l.getD j 0))) (A := A) hN har (va_eqt hle) (fun j hj => va_eqt (hel j hj)) hA
  exact ⟨(a, t), q1, ⟨cA, q3, q5, by rw [q6]; exact q2, hA a (Array.getElem?_eq_some_iff.mp q3).1⟩, vk_OFof q1 (va_eqt hco) hA, vk_OFof q1 ht hA, hT⟩
theorem ev_known {s : State} {args : Array Value} (hts : ∀ w ∈ ev_W, w.before args s = true) : ∀ q ∈ ev_cl, ∃ (cC : ClassId) (iS : Nat → Nat), u_Kn s q.1 q.2.1 q.2.2 cC iS :=
  List.forall_mem_cons.mpr ⟨u_known (N := 2) hts inW_X6 (hts _ ev_v4), List.forall_mem_cons.mpr ⟨u_known (N := 10) hts inW_X12 (hts _ ev_v408), List.forall_mem_cons.mpr ⟨u_known (N := 21) hts inW_X2 (hts _ ev_v12), List.forall_mem_cons.mpr ⟨u_known (N := 22) hts inW_X5 (hts _ ev_v18), List.forall_mem_cons.mpr ⟨u_known (N := 24) hts inW_X7 (hts _ ev_v24), List.forall_mem_cons.mpr ⟨u_known (N := 22) hts inW_X0 (hts _ ev_v30), List.forall_mem_cons.mpr ⟨u_known (N := 18) hts inW_X10 (hts _ ev_v35), List.forall_mem_cons.mpr ⟨u_known (N := 9) hts inW_X8 (hts _ ev_v345), List.forall_mem_cons.mpr ⟨u_known (N := 12) hts inW_X4 (hts _ ev_v152), List.forall_mem_cons.mpr ⟨u_known (N := 11) hts inW_X9 (hts _ ev_v117), List.forall_mem_cons.mpr ⟨u_known (N := 19) hts inW_X1 (hts _ ev_v262), List.forall_mem_cons.mpr ⟨u_known (N := 10) hts inW_X3 (hts _ ev_v189), List.forall_mem_cons.mpr ⟨u_known (N := 15) hts inW_X11 (hts _ ev_v256), List.forall_mem_cons.mpr ⟨u_known (N := 104) hts inW_X28 (hts _ ev_v413), List.forall_mem_cons.mpr ⟨u_known (N := 0) hts inW_Jxb5711 (hts _ ev_v1106), List.forall_mem_cons.mpr ⟨u_known (N := 2) hts inW_X14 (hts _ ev_v528), List.forall_mem_cons.mpr ⟨u_known (N := 7) hts inW_X21 (hts _ ev_v537), List.forall_mem_cons.mpr ⟨u_known (N := 3) hts inW_Jx4a65c (hts _ ev_v546), List.forall_mem_cons.mpr ⟨u_known (N := 4) hts inW_X26 (hts _ ev_v555), List.forall_mem_cons.mpr ⟨u_known (N := 5) hts inW_X22 (hts _ ev_v653), List.forall_mem_cons.mpr ⟨u_known (N := 17) hts inW_X25 (hts _ ev_v685), List.forall_mem_cons.mpr ⟨u_known (N := 8) hts inW_X19 (hts _ ev_v711), List.forall_mem_cons.mpr ⟨u_known (N := 8) hts inW_X18 (hts _ ev_v1161), fun _ h => absurd h List.not_mem_nil⟩⟩⟩⟩⟩⟩⟩⟩⟩⟩⟩⟩⟩⟩⟩⟩⟩⟩⟩⟩⟩⟩⟩
theorem ev_kn2 {s : State} {args : Array Value} (hts : ∀ w ∈ ev_W, w.before args s = true) : ∃ D : va_G, va_K D ev_cl [] s := by
  have h0 : ∀ k : Nat, ∃ p : ClassId × (Nat → Nat), ∀ q : vw_C, ev_cl[k]? = some q → u_Kn s q.1 q.2.1 q.2.2 p.1 p.2 := by
    intro k
    cases hk : ev_cl[k]? with
    | none => exact ⟨(0, fun _ => 0), fun q h => nomatch h⟩
    | some q =>
      obtain ⟨cC, iS, h⟩ := ev_known hts q (List.mem_of_getElem? hk)
      exact ⟨(cC, iS), fun q' h' => by cases h'; exact h⟩
  obtain ⟨f, hf⟩ := Classical.axiomOfChoice h0
  exact ⟨(fun k => (f k).1, fun k => (f k).2), fun k q hq => hf k q hq, fun k q h => by simp at h⟩
/-- what is said of things outside, at the law's start -/
theorem ev_XT0 {s : State} {b : Nat} (hts : ∀ w ∈ lw_tbl, w.before #[Value.ref b] s = true) (hgv : (Jvm.Cond.and given_1 narrow_1).before #[Value.ref b] s = true) : ∃ ex : Nat → Value, ex 3000 = .ref b ∧ ev_XT (fun q : Nat => s.heap.size ≤ q) ex s := by
  have hA : ∀ a : Nat, a < s.heap.size → ¬ (fun q : Nat => s.heap.size ≤ q) a := fun a h => Nat.not_le.mpr h
  have hp : ∀ (p : Nat × Nat) (w : Cond), ev_at3 p = some w → w.before #[Value.ref b] s = true := fun p w h => ev_at2_ok _ ev_rt w hgv h
  have htW : ∀ w ∈ ev_W, w.before #[Value.ref b] s = true := fun w hw => hts w (ev_Win w hw)
  have h0 : ∀ j : Nat, ∃ q : Nat × Nat, ∀ (n : String × Nat) (l : List Int), ev_ltl[j]? = some n → ev_lits[j]? = some l → (ev_ltm n).eval #[Value.ref b] s none [] s = some (.ref q.1) ∧ va_O "java/lang/String" q.1 (fun q : Nat => s.heap.size ≤ q) s s.heap ∧ va_OF "java/lang/String" "coder" "B" (.int 0) q.1 (fun q : Nat => s.heap.size ≤ q) s s.heap ∧ va_OF "java/lang/String" "value" "[B" (.ref q.2) q.1 (fun q : Nat => s.heap.size ≤ q) s s.heap ∧ va_T .byte q.2 l.length (fun i => .int (Int32.ofInt (l.getD i 0))) (fun q : Nat => s.heap.size ≤ q) s s.heap := by
    intro j
    cases hn : ev_ltl[j]? with
    | none => exact ⟨(0, 0), fun n l h => nomatch h⟩
    | some n =>
      cases hl : ev_lits[j]? with
      | none => exact ⟨(0, 0), fun n l _ h => nomatch h⟩
      | some l =>
        have hr := ev_lit_row (j := j) (l := l) (by rw [ev_lg_eq]; exact hl)
        obtain ⟨q, hq⟩ := ev_lit1 (s := s) (args := #[Value.ref b]) (tm := ev_ltm n) (l := l) (A := fun q : Nat => s.heap.size ≤ q) (Nat.lt_of_le_of_lt hr.2.2.1 (by decide)) (fun w hw => by
          obtain ⟨p, hp9⟩ := ev_lall_ok ev_lall1 j n l hn hl w hw
          exact hp p w hp9) hA
        exact ⟨q, fun n' l' e1 e2 => by cases e1; cases e2; exact hq⟩
  obtain ⟨ad, had⟩ := Classical.axiomOfChoice h0
  have hS := va_Zqof (A := fun q : Nat => s.heap.size ≤ q) (hts _ ev_ls1) (htW _ ev_v1163) (hp _ _ ev_pr_sioobe) hA
  have hE := va_Zqof (A := fun q : Nat => s.heap.size ≤ q) (hts _ ev_ls2) (htW _ ev_v1164) (hp _ _ ev_pr_empty) hA
  obtain ⟨vS, hvS, hvS2⟩ : ∃ v : Value, va_Z "jdk/internal/util/Preconditions" "SIOOBE_FORMATTER" "Ljava/util/function/BiFunction;" v (fun q : Nat => s.heap.size ≤ q) s s.heap ∧ (v = .null ∨ ∃ a, v = .ref a) := by
    rcases hS with h | ⟨t, h⟩
    · exact ⟨_, h, Or.inl rfl⟩
    · exact ⟨_, h, Or.inr ⟨t, rfl⟩⟩
  obtain ⟨vE, hvE, hvE2⟩ : ∃ v : Value, va_Z "java/util/ArrayList" "DEFAULTCAPACITY_EMPTY_ELEMENTDATA" "[Ljava/lang/Object;" v (fun q : Nat => s.heap.size ≤ q) s s.heap ∧ (v = .null ∨ ∃ a, v = .ref a) := by
    rcases hE with h | ⟨t, h⟩
    · exact ⟨_, h, Or.inl rfl⟩
    · exact ⟨_, h, Or.inr ⟨t, rfl⟩⟩
  obtain ⟨ex, hex⟩ : ∃ ex : Nat → Value, ex = fun j => if j = 3000 then .ref b else if j = 2000 then vS else if j = 2001 then vE else if j % 2 = 0 then .ref (ad (j / 2)).1 else .ref (ad (j / 2)).2 := ⟨_, rfl⟩
  have e0 : ∀ j : Nat, j < 60 → ex (2 * j) = .ref (ad j).1 ∧ ex (2 * j + 1) = .ref (ad j).2 := by
    intro j hj
    subst hex
    have a1 : 2 * j / 2 = j := by omega
    have a2 : (2 * j + 1) / 2 = j := by omega
    refine ⟨?_, ?_⟩
    · show (if 2 * j = 3000 then _ else if 2 * j = 2000 then _ else if 2 * j = 2001 then _ else if 2 * j % 2 = 0 then _ else _) = _
      rw [if_neg (by omega), if_neg (by omega), if_neg (by omega), if_pos (by omega), a1]
    · show (if 2 * j + 1 = 3000 then _ else if 2 * j + 1 = 2000 then _ else if 2 * j + 1 = 2001 then _ else if (2 * j + 1) % 2 = 0 then _ else _) = _
      rw [if_neg (by omega), if_neg (by omega), if_neg (by omega), if_neg (by omega), a2]
  have eS : ex 2000 = vS := by subst hex; rfl
  have eE : ex 2001 = vE := by subst hex; rfl
  refine ⟨ex, by subst hex; rfl, fun w hw => ev_nk_of (List.all_eq_true.mp ev_Nk w hw) (hts w (ev_Nin w hw)), fun q hq => ?_, fun j hj => ?_, ?_, ⟨by rw [eS]; exact hvS, by rw [eS]; exact hvS2⟩, ⟨by rw [eE]; exact hvE, by rw [eE]; exact hvE2⟩, ?_, ?_, va_Nc.of (hp _ _ ev_pr_nocast)⟩
  · have h1 := List.all_eq_true.mp ev_Ls_lt q hq
    rw [Bool.and_eq_true, Bool.and_eq_true, decide_eq_true_eq] at h1
    obtain ⟨h1, h2, h3⟩ := h1
    have h1 : q.2.2.2 % 2 = 0 := Nat.eq_of_beq_eq_true h1
    have h2 : q.2.2.2 + 1 ≤ 120 := Nat.le_of_ble_eq_true h2
    have hj : q.2.2.2 / 2 < 60 := by omega
    obtain ⟨l, hl⟩ : ∃ l, ev_lits[q.2.2.2 / 2]? = some l := ⟨_, List.getElem?_eq_getElem (by rw [ev_lits_n]; exact hj)⟩
    have h4 := (e0 _ hj).1
    rw [show 2 * (q.2.2.2 / 2) = q.2.2.2 by omega] at h4
    exact ⟨_, h4, vk_R.of (hts _ (ev_Srin _ (List.mem_map.mpr ⟨q, hq, rfl⟩))) (had _ _ _ h3 hl).1⟩
  · obtain ⟨l, hl⟩ : ∃ l, ev_lits[j]? = some l := ⟨_, List.getElem?_eq_getElem (by rw [ev_lits_n]; exact hj)⟩
    obtain ⟨n, hn⟩ : ∃ n, ev_ltl[j]? = some n := ⟨_, List.getElem?_eq_getElem (by rw [ev_lt_n]; exact hj)⟩
    have hr := ev_lit_row (j := j) (l := l) (by rw [ev_lg_eq]; exact hl)
    obtain ⟨-, k1, k2, k3, k4⟩ := had j n l hn hl
    exact ⟨_, _, (e0 j hj).1, (e0 j hj).2, k1, k2, k3, by rw [hr.2.1]; exact k4⟩
  · exact va_Zof (hts _ ev_ls0) (htW _ ev_v1162) (va_eqt (hp _ _ ev_pr_compact)) hA
  · exact vx_Zqof (hts _ ev_ls3) (htW _ ev_v1165) (hp _ _ ev_pr_unas) hA
  · exact vx_Zqof (hts _ ev_ls4) (htW _ ev_v1165) (hp _ _ ev_pr_supp) hA
theorem ev_ix23 {E : ev_E} {ln : Nat} {bx : List (Int × Int)} : ∀ pc : Nat, pc < 23 → ev_mL E ln bx pc = ev_mL E 0 [] pc
  | 0, _ => rfl
  | 1, _ => rfl
  | 2, _ => rfl
  | 3, _ => rfl
  | 4, _ => rfl
  | 5, _ => rfl
  | 6, _ => rfl
  | 7, _ => rfl
  | 8, _ => rfl
  | 9, _ => rfl
  | 10, _ => rfl
  | 11, _ => rfl
  | 12, _ => rfl
  | 13, _ => rfl
  | 14, _ => rfl
  | 15, _ => rfl
  | 16, _ => rfl
  | 17, _ => rfl
  | 18, _ => rfl
  | 19, _ => rfl
  | 20, _ => rfl
  | 21, _ => rfl
  | 22, _ => rfl
  | n + 23, h => absurd h (by omega)
theorem ev_S2 {l : Launch} {D : va_G} {A : Nat → Prop} {ex : Nat → Value} (hl0 : l.stackTraces = false) : ev_Snd l D ev_cl A ex ev_ty (ev_XT A ex) ev_y ev_ws ev_cm ev_sm 20 ev_E2 := by
  have t1 := ev_tall2 (D := D) (A := A) (ex := ex) hl0
  have h12 := ev_M_ok2 (fuel := 100000) t1 12
  have h13 := ev_M_ok2 (fuel := 100000) t1 13
  have h14 := ev_M_ok2 (fuel := 100000) t1 14
  have hX := ev_MX_ok2 (fuel := 100000) t1 (ev_txall2 hl0) (d := 18) (by decide) h12
  exact ev_alt_ok (ev_H_ok (fuel := 1000) (ev_thall hl0) (d := 19) (by decide) h13 hX) h14
set_option maxHeartbeats 1000000 in
/-- the walk of the law from its entry -/
theorem whole_start {p : Program} {e : Env} {s : State} {m : MethodId} {below : List Frame} {meth : Method} {c : Code} (l : Launch) (hflags : l.flags = flags0) {b L : Nat} {xs : Nat → Int32} (hL : L ≤ 6) (C0 : lw_At p s m meth c b L xs) : W p l e room_1 s m #[Value.ref b] below meth c s.heap [] 0 0 (lw_Z below #[Value.ref b] s) (entryFrame m ([Value.ref b] : List Value).toArray 7) := by
  obtain ⟨hx, hb, hr, hml, hown, hts, hX, hbl, hlocks, hgv⟩ := id C0
  have hl0 : l.stackTraces = false := by
    unfold Launch.stackTraces
    rw [hflags]
    decide +kernel
  obtain ⟨ex, hj, hXs⟩ := ev_XT0 hts hgv
  have htW : ∀ w ∈ ev_W, w.before #[Value.ref b] s = true := fun w hw => hts w (ev_Win w hw)
  obtain ⟨D, hK⟩ := ev_kn2 htW
  have hA : ∀ q : Nat, s.heap.size ≤ q → (fun q : Nat => s.heap.size ≤ q) q := fun _ h => h
  have hbA : ¬ (fun q : Nat => s.heap.size ≤ q) b := Nat.not_le.mpr hbl
  have S : CallFix p m c cL_law 7 s #[Value.ref b] ev_W RL := ⟨hx, hb, hml, hown, htW⟩
  have hE := ev_S2 (D := D) (A := fun q : Nat => s.heap.size ≤ q) (ex := ex) hl0
  have sim : ∀ bx : List (Int × Int), (∀ (i : Nat) (v : Int × Int), bx[i]? = some v → i < L ∧ v.1 ≤ (xs i).toInt ∧ (xs i).toInt ≤ v.2) → ∀ (pc : Nat) (f : ev_I), ev_mL ev_E2 L bx pc = some (.inl f) → ev_Sim p l e room_1 s m #[Value.ref b] below meth c (lw_Z below #[Value.ref b] s) 7 D ev_cl (fun q : Nat => s.heap.size ≤ q) s.heap ex [] ev_ty pc f := fun bx hbx pc f hf => ev_tL hE hXs hA S hX hbl hbA hj (Nat.lt_of_le_of_lt hL (by decide)) hbx pc f hf
  have fin : ∀ (L9 : List (Option ev_V)) (hp : ev_Hp) (c1 n1 : Nat), c1 ≤ ev_mxC → n1 ≤ ev_mxS → ev_G p l e room_1 s m #[Value.ref b] below meth c (lw_Z below #[Value.ref b] s) 7 D ev_cl (fun q : Nat => s.heap.size ≤ q) s.heap ex [] ev_ty 613 ([ev_int 1], L9, hp, (c1, n1)) := by
    intro L9 hp c1 n1 h1 h2 H locs ls lv sv ws tys hK1 hP1 hD1 hS1 hh1 hl1 hn1 hL1 hs1
    obtain ⟨w, r9, rfl, ⟨x, rfl, q1, q2⟩, h9⟩ := hs1
    have e1 : x = 1 := Int32.toInt_inj.mp (Int.le_antisymm q2 q1)
    subst e1
    rw [show r9 = [] from h9]
    exact va_forget (fun q hq => hS1.2.2 q hq) (W.widen (k := 600002) (n := 7302232) h1 h2 (lw_ret hx hb hr hlocks dL_law_613))
  have run1 : ∀ (bx : List (Int × Int)) (n pc : Nat), (∀ (i : Nat) (v : Int × Int), bx[i]? = some v → i < L ∧ v.1 ≤ (xs i).toInt ∧ (xs i).toInt ≤ v.2) → ev_fin (ev_run (ev_mL ev_E2 L bx) n pc ev_st1) = true → ev_G p l e room_1 s m #[Value.ref b] below meth c (lw_Z below #[Value.ref b] s) 7 D ev_cl (fun q : Nat => s.heap.size ≤ q) s.heap ex [] ev_ty pc ev_st1 := by
    intro bx n pc hbx hf
    obtain ⟨L9, hp, c1, n1, hrun, h1, h2⟩ := ev_fin_ok hf
    exact (ev_run_ok (sim bx hbx) n pc ev_st1 _ _ _ hrun).2 (fin L9 hp c1 n1 h1 h2)
  have nob : ∀ (i : Nat) (v : Int × Int), ([] : List (Int × Int))[i]? = some v → i < L ∧ v.1 ≤ (xs i).toInt ∧ (xs i).toInt ≤ v.2 := fun i v h => by simp at h
  have g23 : ev_G p l e room_1 s m #[Value.ref b] below meth c (lw_Z below #[Value.ref b] s) 7 D ev_cl (fun q : Nat => s.heap.size ≤ q) s.heap ex [] ev_ty 23 ev_st1 := by
    rcases (show L = 0 ∨ L = 1 ∨ L = 2 ∨ L = 3 ∨ L = 4 ∨ L = 5 ∨ L = 6 by omega) with h | h | h | h | h | h | h
    · subst h; exact run1 [] 100 23 nob ev_B0
    · subst h; exact run1 [] 100 23 nob ev_B1
    · subst h; exact run1 [] 100 23 nob ev_B2
    · subst h; exact run1 [] 100 23 nob ev_B3
    · subst h; exact run1 [] 100 23 nob ev_B4
    · subst h; exact run1 [] 100 23 nob ev_B5
    · subst h
      refine ev_stp_ok (sim [] nob) 6 23 ev_st1 33 ev_st1 (ev_chk_ok ev_B6) ?_
      -- the call's number
      have hz0 : 0 ≤ (xs 0 &&& 15).toInt ∧ (xs 0 &&& 15).toInt < 16 := by
        obtain ⟨k, hk, e9⟩ := pk_andE (xs 0) (m := 15) 4 (by decide)
        rw [e9, nI_toInt (by omega)]
        omega
      obtain ⟨z, hz, hzz⟩ : ∃ z : Nat, z < 16 ∧ (xs 0 &&& 15).toInt = (z : Int) := ⟨(xs 0 &&& 15).toInt.toNat, by omega, by omega⟩
      obtain ⟨bx, hgo, hbx⟩ := ev_Rall xs z hz
      have gt := run1 bx 1000 (ev_tgt z) hbx hgo
      have g40 : ev_G p l e room_1 s m #[Value.ref b] below meth c (lw_Z below #[Value.ref b] s) 7 D ev_cl (fun q : Nat => s.heap.size ≤ q) s.heap ex [] ev_ty 40 ([ev_int (z : Int)], ev_st1.2) := by
        refine ev_tsw2_ok (ts := [100, 173, 229, 273, 329, 365, 452, 520, 557, 570, 581]) (dt := 606) hx hb dL_law_40 rfl rfl (by decide) ([ev_int (z : Int)], ev_st1.2) (ev_tgt z) ev_st1 ?_ gt
        show cond (decide ((z : Int) = (z : Int))) (match (z : Int) - 0 with
          | .ofNat i => (match ev_lg [100, 173, 229, 273, 329, 365, 452, 520, 557, 570, 581] i with
            | some t => some (t, ([], ev_st1.2))
            | none => some (606, ([], ev_st1.2)))
          | .negSucc _ => some (606, ([], ev_st1.2))) _ = some (ev_tgt z, ev_st1)
        rw [decide_eq_true rfl, Int.sub_zero]
        show (match ev_lg [100, 173, 229, 273, 329, 365, 452, 520, 557, 570, 581] z with
            | some t => some (t, ([], ev_st1.2))
            | none => some (606, ([], ev_st1.2))) = some (ev_tgt z, ev_st1)
        unfold ev_tgt
        cases ev_lg [100, 173, 229, 273, 329, 365, 452, 520, 557, 570, 581] z <;> rfl
      intro H locs ls lv sv ws tys hK1 hP1 hD1 hS1 hh1 hl1 hn1 hL1 hs1
      obtain ⟨w0, m0, hw0, -⟩ := hL1 0 (ev_ext 3000) rfl
      obtain ⟨w4, m4, x4, rfl, q1, q2⟩ := hL1 4 (ev_int 0) rfl
      have e4 : x4 = 0 := Int32.toInt_inj.mp (Int.le_antisymm q2 q1)
      subst e4
      rw [hj] at hw0
      subst hw0
      rw [show sv = [] from hs1]
      refine lv_aload_n hx hb dL_law_33 rfl (ev_at hl1 m0) ?_
      refine lv_iload hx hb dL_law_34 (ev_at hl1 m4) ?_
      refine va_sld hx hb hX hbl hbA hS1 (i := 0) (by unfold vp_in; decide) dL_law_36 ?_
      rw [show (0 : Int32).toNatClampNeg = 0 from rfl]
      refine lv_bipush (v := 15) hx hb dL_law_37 rfl ?_
      refine lv_iand hx hb dL_law_39 ?_
      exact g40 H locs ls lv [.int (xs 0 &&& 15)] ws tys hK1 hP1 hD1 hS1 hh1 hl1 hn1 hL1 ⟨_, [], rfl, ⟨_, rfl, by rw [hzz]; exact Int.le_refl _, by rw [hzz]; exact Int.le_refl _⟩, rfl⟩
  -- the constructors
  have g0 : ev_G p l e room_1 s m #[Value.ref b] below meth c (lw_Z below #[Value.ref b] s) 7 D ev_cl (fun q : Nat => s.heap.size ≤ q) s.heap ex [] ev_ty 0 ([], ev_ent 7 [ev_ext 3000], (0, ev_e0 10), (0, 0)) := by
    refine ev_stp_ok (code := ev_c23) (fun pc f hf => ?_) 13 0 _ 23 ev_st1 (ev_chk_ok ev_A) g23
    unfold ev_c23 at hf
    cases h : Nat.blt pc 23 with
    | false =>
      rw [h] at hf
      cases hf
    | true =>
      rw [h] at hf
      exact sim [] nob pc f (by rw [ev_ix23 pc (Nat.le_of_ble_eq_true h)]; exact hf)
  have hl := lv_entry ([.ref b]) (n := 7) (Nat.le_of_ble_eq_true rfl)
  rw [lg_entry_eq]
  exact g0 s.heap [] _ _ [] [] [] hK (fun k q h => by simp at h) ⟨fun i j p q h => by simp at h, fun k q h => by simp at h⟩ va_S.rf ⟨rfl, Nat.zero_le _, fun k a h => h, fun k _ q h => by rw [ev_e0_none] at h; cases h⟩ hl rfl (ev_ent_ok (vals := [.ref b]) ⟨_, [], rfl, ⟨hj.symm, Or.inr ⟨b, rfl⟩⟩, rfl⟩) rfl
