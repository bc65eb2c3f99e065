noncomputable section KV46_sta
/-! THE LAW'S START: what is said of things outside holds there (printed by wip/ev2/finp.py). -/
/-- a literal, out of what is given of it -/
theorem ev_lit1 {args : Array Value} {s : State} {tm : Term} {l : List Int} {A : Nat → Prop} (hN : l.length < 2 ^ 31) (h : ∀ w ∈ ev_lc tm l, w.before args s = true) (hA : ∀ a : Nat, a < s.heap.size → ¬ A a) :
    ∃ q : Nat × Nat, tm.eval args s none [] s = some (.ref q.1) ∧ va_O "java/lang/String" q.1 A s s.heap ∧ va_OF "java/lang/String" "coder" "B" (.int 0) q.1 A s s.heap ∧ va_OF "java/lang/String" "value" "[B" (.ref q.2) q.1 A s s.heap ∧ va_T .byte q.2 l.length (fun i => .int (Int32.ofInt (l.getD i 0))) A s s.heap := by
  have hex : (Cond.exactly tm "java/lang/String").before args s = true := h _ (by simp [ev_lc])
  have hco : (Cond.eq (.field tm "java/lang/String" "coder" "B") (.int 0)).before args s = true := h _ (by simp [ev_lc])
  have har : (Cond.arrayOf (ev_lv tm) .byte).before args s = true := h _ (by simp [ev_lc])
  have hle : (Cond.eq (.length (ev_lv tm)) (.int (Int32.ofNat l.length))).before args s = true := h _ (by simp [ev_lc])
  have hel : ∀ j : Nat, j < l.length → (Cond.eq (.elem (ev_lv tm) (.int (Int32.ofNat j))) (.int (Int32.ofInt (l.getD j 0)))).before args s = true := fun j hj => h _ (by
    unfold ev_lc
    refine List.mem_cons_of_mem _ (List.mem_cons_of_mem _ (List.mem_cons_of_mem _ (List.mem_cons_of_mem _ ?_)))
    exact List.mem_map.mpr ⟨j, List.mem_range.mpr hj, rfl⟩)
  obtain ⟨a, c, cA, kA, q1, q2, q3, q4, q5, q6, -⟩ := Cond.exactly_spec (args := args) (first := s) (o := none) (s := s) (idx := []) (t := tm) (cls := "java/lang/String") hex
  obtain ⟨t, ht, hT⟩ := va_Tof (f := fun j => .int (Int32.ofInt (l.getD j 0))) (A := A) hN har (va_eqt hle) (fun j hj => va_eqt (hel j hj)) hA
  exact ⟨(a, t), q1, ⟨cA, q3, q5, by rw [q6]; exact q2, hA a (Array.getElem?_eq_some_iff.mp q3).1⟩, vk_OFof q1 (va_eqt hco) hA, vk_OFof q1 ht hA, hT⟩
theorem ev_known {s : State} {args : Array Value} (hts : ∀ w ∈ ev_W, w.before args s = true) : ∀ q ∈ ev_cl, ∃ (cC : ClassId) (iS : Nat → Nat), u_Kn s q.1 q.2.1 q.2.2 cC iS :=
  List.forall_mem_cons.mpr ⟨u_known (N := 2) hts inW_X6 (hts _ ev_v4), List.forall_mem_cons.mpr ⟨u_known (N := 10) hts inW_X12 (hts _ ev_v423), List.forall_mem_cons.mpr ⟨u_known (N := 21) hts inW_X2 (hts _ ev_v12), List.forall_mem_cons.mpr ⟨u_known (N := 22) hts inW_X5 (hts _ ev_v18), List.forall_mem_cons.mpr ⟨u_known (N := 24) hts inW_X7 (hts _ ev_v24), List.forall_mem_cons.mpr ⟨u_known (N := 22) hts inW_X0 (hts _ ev_v30), List.forall_mem_cons.mpr ⟨u_known (N := 18) hts inW_X10 (hts _ ev_v35), List.forall_mem_cons.mpr ⟨u_known (N := 10) hts inW_X3 (hts _ ev_v161), List.forall_mem_cons.mpr ⟨u_known (N := 11) hts inW_X9 (hts _ ev_v96), List.forall_mem_cons.mpr ⟨u_known (N := 19) hts inW_X1 (hts _ ev_v280), List.forall_mem_cons.mpr ⟨u_known (N := 12) hts inW_X4 (hts _ ev_v131), List.forall_mem_cons.mpr ⟨u_known (N := 15) hts inW_X11 (hts _ ev_v254), List.forall_mem_cons.mpr ⟨u_known (N := 9) hts inW_X8 (hts _ ev_v369), List.forall_mem_cons.mpr ⟨u_known (N := 104) hts inW_X28 (hts _ ev_v428), List.forall_mem_cons.mpr ⟨u_known (N := 0) hts inW_Jxb5711 (hts _ ev_v1134), List.forall_mem_cons.mpr ⟨u_known (N := 2) hts inW_X14 (hts _ ev_v474), List.forall_mem_cons.mpr ⟨u_known (N := 7) hts inW_X21 (hts _ ev_v483), List.forall_mem_cons.mpr ⟨u_known (N := 3) hts inW_Jx4a65c (hts _ ev_v492), List.forall_mem_cons.mpr ⟨u_known (N := 4) hts inW_X26 (hts _ ev_v501), List.forall_mem_cons.mpr ⟨u_known (N := 8) hts inW_X18 (hts _ ev_v794), List.forall_mem_cons.mpr ⟨u_known (N := 5) hts inW_X22 (hts _ ev_v595), List.forall_mem_cons.mpr ⟨u_known (N := 17) hts inW_X25 (hts _ ev_v650), List.forall_mem_cons.mpr ⟨u_known (N := 8) hts inW_X19 (hts _ ev_v679), List.forall_mem_cons.mpr ⟨u_known (N := 9) hts inW_X27 (hts _ ev_v686), List.forall_mem_cons.mpr ⟨u_known (N := 7) hts inW_X23 (hts _ ev_v740), fun _ h => absurd h List.not_mem_nil⟩⟩⟩⟩⟩⟩⟩⟩⟩⟩⟩⟩⟩⟩⟩⟩⟩⟩⟩⟩⟩⟩⟩⟩⟩
theorem ev_kn2 {s : State} {args : Array Value} (hts : ∀ w ∈ ev_W, w.before args s = true) : ∃ D : va_G, va_K D ev_cl [] s := by
  have h0 : ∀ k : Nat, ∃ p : ClassId × (Nat → Nat), ∀ q : vw_C, ev_cl[k]? = some q → u_Kn s q.1 q.2.1 q.2.2 p.1 p.2 := by
    intro k
    cases hk : ev_cl[k]? with
    | none => exact ⟨(0, fun _ => 0), fun q h => nomatch h⟩
    | some q =>
      obtain ⟨cC, iS, h⟩ := ev_known hts q (List.mem_of_getElem? hk)
      exact ⟨(cC, iS), fun q' h' => by cases h'; exact h⟩
  obtain ⟨f, hf⟩ := Classical.axiomOfChoice h0
  exact ⟨(fun k => (f k).1, fun k => (f k).2), fun k q hq => hf k q hq, fun k q h => by simp at h⟩
/-- what is said of things outside, at the law's start -/
theorem ev_XT0 {s : State} {b : Nat} (hts : ∀ w ∈ lw_tbl, w.before #[Value.ref b] s = true) (hgv : (Jvm.Cond.and given_1 narrow_1).before #[Value.ref b] s = true) : ∃ ex : Nat → Value, ex 3000 = .ref b ∧ ev_XT (fun q : Nat => s.heap.size ≤ q) ex s := by
  have hA : ∀ a : Nat, a < s.heap.size → ¬ (fun q : Nat => s.heap.size ≤ q) a := fun a h => Nat.not_le.mpr h
  have hp : ∀ (p : Nat × Nat) (w : Cond), ev_at3 p = some w → w.before #[Value.ref b] s = true := fun p w h => ev_at2_ok _ ev_rt w hgv h
  have htW : ∀ w ∈ ev_W, w.before #[Value.ref b] s = true := fun w hw => hts w (ev_Win w hw)
  have h0 : ∀ j : Nat, ∃ q : Nat × Nat, ∀ (n : String × Nat) (l : List Int), ev_ltl[j]? = some n → ev_lits[j]? = some l → (ev_ltm n).eval #[Value.ref b] s none [] s = some (.ref q.1) ∧ va_O "java/lang/String" q.1 (fun q : Nat => s.heap.size ≤ q) s s.heap ∧ va_OF "java/lang/String" "coder" "B" (.int 0) q.1 (fun q : Nat => s.heap.size ≤ q) s s.heap ∧ va_OF "java/lang/String" "value" "[B" (.ref q.2) q.1 (fun q : Nat => s.heap.size ≤ q) s s.heap ∧ va_T .byte q.2 l.length (fun i => .int (Int32.ofInt (l.getD i 0))) (fun q : Nat => s.heap.size ≤ q) s s.heap := by
    intro j
    cases hn : ev_ltl[j]? with
    | none => exact ⟨(0, 0), fun n l h => nomatch h⟩
    | some n =>
      cases hl : ev_lits[j]? with
      | none => exact ⟨(0, 0), fun n l _ h => nomatch h⟩
      | some l =>
        have hr := ev_lit_row (j := j) (l := l) (by rw [ev_lg_eq]; exact hl)
        obtain ⟨q, hq⟩ := ev_lit1 (s := s) (args := #[Value.ref b]) (tm := ev_ltm n) (l := l) (A := fun q : Nat => s.heap.size ≤ q) (Nat.lt_of_le_of_lt hr.2.2.1 (by decide)) (fun w hw => by
          obtain ⟨p, hp9⟩ := ev_lall_ok ev_lall1 j n l hn hl w hw
          exact hp p w hp9) hA
        exact ⟨q, fun n' l' e1 e2 => by cases e1; cases e2; exact hq⟩
  obtain ⟨ad, had⟩ := Classical.axiomOfChoice h0
  have hS := va_Zqof (A := fun q : Nat => s.heap.size ≤ q) (hts _ ev_ls1) (htW _ ev_v1206) (hp _ _ ev_pr_sioobe) hA
  have hE := va_Zqof (A := fun q : Nat => s.heap.size ≤ q) (hts _ ev_ls2) (htW _ ev_v1207) (hp _ _ ev_pr_empty) hA
  obtain ⟨vS, hvS, hvS2⟩ : ∃ v : Value, va_Z "jdk/internal/util/Preconditions" "SIOOBE_FORMATTER" "Ljava/util/function/BiFunction;" v (fun q : Nat => s.heap.size ≤ q) s s.heap ∧ (v = .null ∨ ∃ a, v = .ref a) := by
    rcases hS with h | ⟨t, h⟩
    · exact ⟨_, h, Or.inl rfl⟩
    · exact ⟨_, h, Or.inr ⟨t, rfl⟩⟩
  obtain ⟨vE, hvE, hvE2⟩ : ∃ v : Value, va_Z "java/util/ArrayList" "DEFAULTCAPACITY_EMPTY_ELEMENTDATA" "[Ljava/lang/Object;" v (fun q : Nat => s.heap.size ≤ q) s s.heap ∧ (v = .null ∨ ∃ a, v = .ref a) := by
    rcases hE with h | ⟨t, h⟩
    · exact ⟨_, h, Or.inl rfl⟩
    · exact ⟨_, h, Or.inr ⟨t, rfl⟩⟩
  obtain ⟨ex, hex⟩ : ∃ ex : Nat → Value, ex = fun j => if j = 3000 then .ref b else if j = 2000 then vS else if j = 2001 then vE else if j % 2 = 0 then .ref (ad (j / 2)).1 else .ref (ad (j / 2)).2 := ⟨_, rfl⟩
  have e0 : ∀ j : Nat, j < 73 → ex (2 * j) = .ref (ad j).1 ∧ ex (2 * j + 1) = .ref (ad j).2 := by
    intro j hj
    subst hex
    have a1 : 2 * j / 2 = j := by omega
    have a2 : (2 * j + 1) / 2 = j := by omega
    refine ⟨?_, ?_⟩
    · show (if 2 * j = 3000 then _ else if 2 * j = 2000 then _ else if 2 * j = 2001 then _ else if 2 * j % 2 = 0 then _ else _) = _
      rw [if_neg (by omega), if_neg (by omega), if_neg (by omega), if_pos (by omega), a1]
    · show (if 2 * j + 1 = 3000 then _ else if 2 * j + 1 = 2000 then _ else if 2 * j + 1 = 2001 then _ else if (2 * j + 1) % 2 = 0 then _ else _) = _
      rw [if_neg (by omega), if_neg (by omega), if_neg (by omega), if_neg (by omega), a2]
  have eS : ex 2000 = vS := by subst hex; rfl
  have eE : ex 2001 = vE := by subst hex; rfl
  refine ⟨ex, by subst hex; rfl, fun w hw => ev_nk_of (List.all_eq_true.mp ev_Nk w hw) (hts w (ev_Nin w hw)), fun q hq => ?_, fun j hj => ?_, ?_, ⟨by rw [eS]; exact hvS, by rw [eS]; exact hvS2⟩, ⟨by rw [eE]; exact hvE, by rw [eE]; exact hvE2⟩, ?_, ?_, va_Nc.of (hp _ _ ev_pr_nocast)⟩
  · have h1 := List.all_eq_true.mp ev_Ls_lt q hq
    rw [Bool.and_eq_true, Bool.and_eq_true, decide_eq_true_eq] at h1
    obtain ⟨h1, h2, h3⟩ := h1
    have h1 : q.2.2.2 % 2 = 0 := Nat.eq_of_beq_eq_true h1
    have h2 : q.2.2.2 + 1 ≤ 146 := Nat.le_of_ble_eq_true h2
    have hj : q.2.2.2 / 2 < 73 := by omega
    obtain ⟨l, hl⟩ : ∃ l, ev_lits[q.2.2.2 / 2]? = some l := ⟨_, List.getElem?_eq_getElem (by rw [ev_lits_n]; exact hj)⟩
    have h4 := (e0 _ hj).1
    rw [show 2 * (q.2.2.2 / 2) = q.2.2.2 by omega] at h4
    exact ⟨_, h4, vk_R.of (hts _ (ev_Srin _ (List.mem_map.mpr ⟨q, hq, rfl⟩))) (had _ _ _ h3 hl).1⟩
  · obtain ⟨l, hl⟩ : ∃ l, ev_lits[j]? = some l := ⟨_, List.getElem?_eq_getElem (by rw [ev_lits_n]; exact hj)⟩
    obtain ⟨n, hn⟩ : ∃ n, ev_ltl[j]? = some n := ⟨_, List.getElem?_eq_getElem (by rw [ev_lt_n]; exact hj)⟩
    have hr := ev_lit_row (j := j) (l := l) (by rw [ev_lg_eq]; exact hl)
    obtain ⟨-, k1, k2, k3, k4⟩ := had j n l hn hl
    exact ⟨_, _, (e0 j hj).1, (e0 j hj).2, k1, k2, k3, by rw [hr.2.1]; exact k4⟩
  · exact va_Zof (hts _ ev_ls0) (htW _ ev_v1205) (va_eqt (hp _ _ ev_pr_compact)) hA
  · exact vx_Zqof (hts _ ev_ls3) (htW _ ev_v1208) (hp _ _ ev_pr_unas) hA
  · exact vx_Zqof (hts _ ev_ls4) (htW _ ev_v1208) (hp _ _ ev_pr_supp) hA
end KV46_sta
