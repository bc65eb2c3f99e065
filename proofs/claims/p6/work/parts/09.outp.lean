noncomputable section KV09_outp
/-! THINGS OUTSIDE: their rows; literals; comparisons of references; switches. -/
section EvH
variable {p : Program} {l : Launch} {e : Env} {R : Room} {s : State} {m : MethodId} {args : Array Value} {below : List Frame} {meth : Method} {c : Code} {Q : State → Prop} {nL : Nat} {D : va_G} {cl : List vw_C} {A : Nat → Prop} {H0 : Heap} {ex : Nat → Value} {ad0 : List Nat} {tyOf : Nat → FieldType}
variable {cc : ByteArray} {pc : Nat} {XT : State → Prop} {yOf : Nat → MethodName} {wsOf : Nat → List Cond} {cmOf smOf : Nat → Nat} {d : Nat}
/-- int constant by a wide index -/
theorem ev_ldcw_ok (hx : p.tables.exec = Jvm.exec) (hb : c.code = cc) {own : String} {index : Nat} {z : Int} {x : Int32} (ho : s.vm.findClass own = some m.cls) (hc : (Jvm.Cond.constant own index x).before args s = true) (hd : decode cc pc = .ok (.ldc_w index, 3)) (hz : x.toInt = z) : ev_Sim p l e R s m args below meth c Q nL D cl A H0 ex ad0 tyOf pc (ev_push (pc + 3) (ev_int z)) := by
  intro st pc' st' h g
  obtain ⟨stk, r⟩ := st
  cases h
  intro H locs ls lv sv ws tys hK hP hD hS hh hl hn hL hs
  exact lv_ldcw hx hb ho hc hd (g H locs ls lv (.int x :: sv) ws tys hK hP hD hS hh hl hn hL ⟨_, _, rfl, ⟨x, rfl, by rw [hz]; exact Int.le_refl _, by rw [hz]; exact Int.le_refl _⟩, hs⟩)
/-- a literal -/
theorem ev_ldcs_ok (hx : p.tables.exec = Jvm.exec) (hb : c.code = cc) {own tx : String} {index q j : Nat} (ho : s.vm.findClass own = some m.cls) (hZ : vk_R own index tx q s) (hj : ex j = .ref q) (hd : decode cc pc = .ok (.ldc index, 2)) : ev_Sim p l e R s m args below meth c Q nL D cl A H0 ex ad0 tyOf pc (ev_push (pc + 2) (ev_ext j)) := by
  intro st pc' st' h g
  obtain ⟨stk, r⟩ := st
  cases h
  intro H locs ls lv sv ws tys hK hP hD hS hh hl hn hL hs
  exact va_ldcS hx hb ho hZ hd (g H locs ls lv (.ref q :: sv) ws tys hK hP hD hS hh hl hn hL ⟨_, _, rfl, ⟨hj.symm, Or.inr ⟨q, rfl⟩⟩, hs⟩)
/-- a static field that nobody writes -/
theorem ev_gets_ok (hx : p.tables.exec = Jvm.exec) (hb : c.code = cc) {C n dd own ref : String} {v : Value} {u : ev_V} {index : Nat} (hZ : va_Z C n dd v A s s.heap) (ho : s.vm.findClass own = some m.cls) (hlink : (Cond.fieldLink own index ref n dd).before args s = true) (hsame : ∀ x, s.fieldFound? C n dd = some x → s.fieldFound? ref n dd = some x) (hu : ∀ ad : List Nat, ev_vR ad ex u v) (hd : decode cc pc = .ok (.getstatic index, 3)) : ev_Sim p l e R s m args below meth c Q nL D cl A s.heap ex ad0 tyOf pc (ev_push (pc + 3) u) := by
  intro st pc' st' h g
  obtain ⟨stk, r⟩ := st
  cases h
  intro H locs ls lv sv ws tys hK hP hD hS hh hl hn hL hs
  exact va_gets hx hb hZ hS ho hlink hsame hd (g H locs ls lv (v :: sv) ws tys hK hP hD hS hh hl hn hL ⟨_, _, rfl, hu _, hs⟩)
/-- a field of a thing outside -/
theorem ev_getx_ok (hx : p.tables.exec = Jvm.exec) (hb : c.code = cc) {o n dd own ref : String} {index : Nat} {tb : Nat → Option ev_V} (htb : ∀ (j : Nat) (u : ev_V), tb j = some u → ∀ q : Nat, ex j = .ref q → ∃ v, va_OF o n dd v q A s s.heap ∧ ∀ ad : List Nat, ev_vR ad ex u v) (hnn : ∀ (j : Nat) (u : ev_V), tb j = some u → ¬ ex j = .null) (ho : s.vm.findClass own = some m.cls) (hlink : (Cond.fieldLink own index ref n dd).before args s = true) (hsame : ∀ x, s.fieldFound? o n dd = some x → s.fieldFound? ref n dd = some x) (hd : decode cc pc = .ok (.getfield index, 3)) : ev_Sim p l e R s m args below meth c Q nL D cl A s.heap ex ad0 tyOf pc (ev_getx (pc + 3) tb) := by
  intro st pc' st' h g
  obtain ⟨stk, r⟩ := st
  match stk, h with
  | .inr (.inr (some (.inr j))) :: stk, h =>
    simp only [ev_getx] at h
    split at h
    · next u hu =>
      cases h
      intro H locs ls lv sv ws tys hK hP hD hS hh hl hn hL hs
      obtain ⟨w, q, rfl, ⟨hw, hw2⟩, hq⟩ := hs
      rcases hw2 with rfl | ⟨a, rfl⟩
      · exact absurd hw.symm (hnn j u hu)
      · obtain ⟨v, hv, hr⟩ := htb j u hu a hw.symm
        exact vk_getf hx hb hv hS ho hlink hsame hd (g H locs ls lv (v :: q) ws tys hK hP hD hS hh hl hn hL ⟨_, _, rfl, hr _, hq⟩)
    · cases h
theorem ev_alenx_ok (hx : p.tables.exec = Jvm.exec) (hb : c.code = cc) {ty : FieldType} {tb : Nat → Option Nat} (htb : ∀ j len : Nat, tb j = some len → len < 2147483648 ∧ ∃ q : Nat, ex j = .ref q ∧ ∃ f, va_T ty q len f A s s.heap) (hd : decode cc pc = .ok (.arraylength, 1)) : ev_Sim p l e R s m args below meth c Q nL D cl A s.heap ex ad0 tyOf pc (ev_alenx (pc + 1) tb) := by
  intro st pc' st' h g
  obtain ⟨stk, r⟩ := st
  match stk, h with
  | .inr (.inr (some (.inr j))) :: stk, h =>
    simp only [ev_alenx] at h
    split at h
    · next len hu =>
      cases h
      intro H locs ls lv sv ws tys hK hP hD hS hh hl hn hL hs
      obtain ⟨w, q, rfl, ⟨hw, -⟩, hq⟩ := hs
      obtain ⟨hlt, a, ha, f, hT⟩ := htb j len hu
      rw [hw, ha]
      have e9 : (Int32.ofNat len).toInt = Int.ofNat len := nI_toInt hlt
      exact va_tlen hx hb hT hS rfl hd (g H locs ls lv (.int (Int32.ofNat len) :: q) ws tys hK hP hD hS hh hl hn hL ⟨_, _, rfl, ⟨_, rfl, by rw [e9]; exact Int.le_refl _, by rw [e9]; exact Int.le_refl _⟩, hq⟩)
    · cases h
theorem ev_aldx_ok (hx : p.tables.exec = Jvm.exec) (hb : c.code = cc) {tb : Nat → Nat → Option Int} (htb : ∀ (j i : Nat) (z : Int), tb j i = some z → ∃ q : Nat, ex j = .ref q ∧ ∃ N f, va_T .byte q N f A s s.heap ∧ i < N ∧ ∃ x : Int32, f i = .int x ∧ x.toInt = z) (hd : decode cc pc = .ok (.baload, 1)) : ev_Sim p l e R s m args below meth c Q nL D cl A s.heap ex ad0 tyOf pc (ev_aldx (pc + 1) tb) := by
  intro st pc' st' h g
  obtain ⟨stk, r⟩ := st
  match stk, h with
  | .inl (.ofNat i1, i2) :: .inr (.inr (some (.inr j))) :: stk, h =>
    simp only [ev_aldx] at h
    split at h
    · next z hu =>
      obtain ⟨a1, h9⟩ := ev_bt1 h
      clear h
      rw [decide_eq_true_eq] at a1
      subst a1
      cases h9
      intro H locs ls lv sv ws tys hK hP hD hS hh hl hn hL hs
      obtain ⟨w, r1, rfl, ⟨y, rfl, hy1, hy2⟩, w2, q, rfl, ⟨hw, -⟩, hq⟩ := hs
      obtain ⟨a, ha, N, f, hT, hi, x, hf, hz⟩ := htb j i1 z hu
      obtain ⟨f1, f2⟩ := ev_ix hy1 hy2
      rw [hw, ha]
      refine va_tb hx hb hT hS (f2 N hi) (v := .int x) (by rw [f1]; exact hf) hd (g H locs ls lv (.int x :: q) ws tys hK hP hD hS hh hl hn hL ⟨_, _, rfl, ⟨x, rfl, by rw [hz]; exact Int.le_refl _, by rw [hz]; exact Int.le_refl _⟩, hq⟩)
    · cases h
/-- references of the world are one where their places are -/
theorem ev_same {ws : va_W} {i j a b : Nat} {e1 e2 : va_E} (hD : va_D A ws) (hi : ws[i]? = some (a, e1)) (hj : ws[j]? = some (b, e2)) : a = b ↔ i = j :=
  ⟨fun q => hD.1 i j _ _ hi hj q, fun q => by subst q; rw [hi] at hj; cases hj; rfl⟩
theorem ev_acmp_gen {bb : Bool} {n t : Nat} (row : ∀ (H : Heap) (locs : List Loc) (cells slots : Nat) (ls : Array Slot) (rest : List Value) (rx ry : Option Nat), (rx = ry → W p l e R s m args below meth c H locs cells slots Q (F0 m (cond bb t n) ls rest)) → (¬ rx = ry → W p l e R s m args below meth c H locs cells slots Q (F0 m (cond bb n t) ls rest)) → W p l e R s m args below meth c H locs cells slots Q (F0 m pc ls (va_rf ry :: va_rf rx :: rest))) : ev_Sim p l e R s m args below meth c Q nL D cl A H0 ex ad0 tyOf pc (ev_acmp bb n t) := by
  intro st pc' st' h g
  obtain ⟨stk, r⟩ := st
  match stk, h with
  | .inr (.inr none) :: .inr (.inr none) :: stk, h =>
    cases h
    intro H locs ls lv sv ws tys hK hP hD hS hh hl hn hL hs
    obtain ⟨w, r1, rfl, hw, w2, q, rfl, hw2, hq⟩ := hs
    rw [show w = va_rf none from hw, show w2 = va_rf none from hw2]
    exact row H locs _ _ ls q none none (fun _ => g H locs ls lv q ws tys hK hP hD hS hh hl hn hL hq) (fun z => absurd rfl z)
  | .inr (.inr (some (.inl j))) :: .inr (.inr none) :: stk, h =>
    cases h
    intro H locs ls lv sv ws tys hK hP hD hS hh hl hn hL hs
    obtain ⟨w, r1, rfl, hw, w2, q, rfl, hw2, hq⟩ := hs
    obtain ⟨a, -, rfl⟩ := hw
    rw [show w2 = va_rf none from hw2]
    exact row H locs _ _ ls q none (some a) (fun z => nomatch z) (fun _ => g H locs ls lv q ws tys hK hP hD hS hh hl hn hL hq)
  | .inr (.inr none) :: .inr (.inr (some (.inl j))) :: stk, h =>
    cases h
    intro H locs ls lv sv ws tys hK hP hD hS hh hl hn hL hs
    obtain ⟨w, r1, rfl, hw, w2, q, rfl, hw2, hq⟩ := hs
    obtain ⟨a, -, rfl⟩ := hw2
    rw [show w = va_rf none from hw]
    exact row H locs _ _ ls q (some a) none (fun z => nomatch z) (fun _ => g H locs ls lv q ws tys hK hP hD hS hh hl hn hL hq)
  | .inr (.inr (some (.inl j))) :: .inr (.inr (some (.inl k))) :: stk, h =>
    cases h
    intro H locs ls lv sv ws tys hK hP hD hS hh hl hn hL hs
    obtain ⟨w, r1, rfl, hw, w2, q, rfl, hw2, hq⟩ := hs
    obtain ⟨a, e1, hj, rfl⟩ := ev_place hw
    obtain ⟨b, e2, hk, rfl⟩ := ev_place hw2
    have hab := ev_same hD hk hj
    refine row H locs _ _ ls q (some b) (some a) (fun z => ?_) (fun z => ?_)
    · have hjk : Nat.beq j k = true := by rw [(hab.mp (Option.some.inj z)).symm]; exact Nat.beq_refl _
      have g2 := g H locs ls lv q ws tys hK hP hD hS hh hl hn hL hq
      rw [hjk] at g2
      exact g2
    · have hjk : Nat.beq j k = false := by
        cases hb9 : Nat.beq j k with
        | false => rfl
        | true => exact absurd (congrArg some (hab.mpr (Nat.eq_of_beq_eq_true hb9).symm)) z
      have g2 := g H locs ls lv q ws tys hK hP hD hS hh hl hn hL hq
      rw [hjk] at g2
      exact g2
theorem ev_acmp_eq_ok (hx : p.tables.exec = Jvm.exec) (hb : c.code = cc) {off : Int} {t : Nat} (hd : decode cc pc = .ok (.if_acmp .eq off, 3)) (ht : (pc : Int) + off = (t : Int)) : ev_Sim p l e R s m args below meth c Q nL D cl A H0 ex ad0 tyOf pc (ev_acmp true (pc + 3) t) :=
  ev_acmp_gen (fun _ _ _ _ _ _ _ _ kt kf => lv_acmp_eq hx hb hd ht kt kf)
theorem ev_acmp_ne_ok (hx : p.tables.exec = Jvm.exec) (hb : c.code = cc) {off : Int} {t : Nat} (hd : decode cc pc = .ok (.if_acmp .ne off, 3)) (ht : (pc : Int) + off = (t : Int)) : ev_Sim p l e R s m args below meth c Q nL D cl A H0 ex ad0 tyOf pc (ev_acmp false (pc + 3) t) :=
  ev_acmp_gen (fun _ _ _ _ _ _ _ _ kt kf => lv_acmp_ne hx hb hd ht kf kt)
/-- a call on a thing outside -/
theorem ev_callVx_ok {own C : String} {index mid n cm sm maxL : Nat} {bytes : ByteArray} {ret : Option FieldType} {Ts : List Cond} {E : ev_E} {rc : ev_Hp → List ev_V → Bool} (S : CallFix p m c cc nL s args Ts own) (hE : ev_Snd l D cl A ex tyOf XT yOf wsOf cmOf smOf d E) (hcm : cm ≤ R.cells) (hsm : sm ≤ R.slots) (hX : ev_Xok A XT) (hXs : XT s) (hA : ∀ q, s.heap.size ≤ q → A q)
    (hrc : ∀ (h : ev_Hp) (as : List ev_V), rc h as = true → ∃ j as', as = .inr (.inr (some (.inr j))) :: as' ∧ ∃ b, ex j = .ref b ∧ ∀ (H : Heap) (locs : List Loc), va_S A s.heap H locs → ∃ cell : Cell, H[b]? = some cell ∧ cell.vm.isStatics = false ∧ s.vm.findClass C = some cell.cls)
    (cw : CallW R s args own C index (yOf mid) bytes maxL ret (wsOf mid) ({ frames := d, cells := cmOf mid, slots := smOf mid, locals := 64 * d } : Room) (cmOf mid) (smOf mid) n) (hd : decode cc pc = .ok (.invokevirtual index, 3)) : ev_Sim p l e R s m args below meth c Q nL D cl A s.heap ex ad0 tyOf pc (ev_call (pc + 3) mid (n + 1) (cmOf mid) (smOf mid) cm sm rc E) := by
  refine ev_call_gen hE hcm hsm (fun H locs cells slots ls w tys h h' rv as vals rest hK hP hD hS hh hsz hv hlen hr hrest h1 h2 hM => ?_)
  obtain ⟨j, as', rfl, b, hj, hcell⟩ := hrc h as hr
  obtain ⟨w0, r0, rfl, ⟨hw, -⟩, hv2⟩ := hv
  rw [hj] at hw
  subst hw
  exact va_runV S hM cw ⟨ev_blind hX, hcell H locs hS, ev_start hX hXs hA hK hP hD hS hh⟩ rfl (by simpa using hlen) hsz (by simp) (lv_room hrest) hd ⟨h1, h2⟩
/-- a number shifted by 0 -/
theorem ev_shr0_ok (hx : p.tables.exec = Jvm.exec) (hb : c.code = cc) (hd : decode cc pc = .ok (.ishr, 1)) : ev_Sim p l e R s m args below meth c Q nL D cl A H0 ex ad0 tyOf pc (ev_shr0 (pc + 1)) := by
  intro st pc' st' h g
  obtain ⟨stk, r⟩ := st
  match stk, h with
  | .inl (b1, b2) :: .inl (a1, a2) :: stk, h =>
    simp only [ev_shr0] at h
    obtain ⟨q1, q2, h9⟩ := ev_bt h
    clear h
    rw [decide_eq_true_eq] at q1 q2
    cases h9
    intro H locs ls lv sv ws tys hK hP hD hS hh hl hn hL hs
    obtain ⟨w, r1, rfl, ⟨y, rfl, hy1, hy2⟩, w2, r2, rfl, ⟨x, rfl, hx1, hx2⟩, hs⟩ := hs
    have ey : y = 0 := Int32.toInt_inj.mp (show y.toInt = 0 by omega)
    subst ey
    have e9 : x >>> ((0 : Int32) &&& 31) = x := by simp
    refine lv_ishr hx hb hd ?_
    rw [e9]
    exact g H locs ls lv (.int x :: r2) ws tys hK hP hD hS hh hl hn hL ⟨_, _, rfl, ⟨x, rfl, hx1, hx2⟩, hs⟩
/-- tableswitch: the places by number, and the default -/
theorem ev_tsw_ok (hx : p.tables.exec = Jvm.exec) (hb : c.code = cc) {dflt lo hi : Int} {offs : Array Int} {len dt : Nat} {ts : List Nat} (hd : decode cc pc = .ok (.tableswitch dflt lo hi offs, len)) (hdt : (pc : Int) + dflt = (dt : Int)) (hn9 : (ts.length : Int) = hi - lo + 1) (hts : ∀ i t : Nat, ts[i]? = some t → ∃ off, offs[i]? = some off ∧ (pc : Int) + off = (t : Int)) : ev_Sim p l e R s m args below meth c Q nL D cl A H0 ex ad0 tyOf pc (ev_tsw lo ts dt) := by
  intro st pc' st' h g
  obtain ⟨stk, r⟩ := st
  match stk, h with
  | .inl (a1, a2) :: stk, h =>
    simp only [ev_tsw, ev_lg_eq] at h
    by_cases q1 : a1 = a2
    rotate_left
    · rw [decide_eq_false q1] at h
      obtain ⟨q2, h9⟩ := ev_bt1 (show cond (decide (a2 < lo) || decide (lo + Int.ofNat ts.length ≤ a1)) (some (dt, (stk, r))) none = some (pc', st') from h)
      clear h
      cases h9
      intro H locs ls lv sv ws tys hK hP hD hS hh hl hn hL hs
      obtain ⟨w2, r2, rfl, ⟨x, rfl, hx1, hx2⟩, hs⟩ := hs
      rw [Bool.or_eq_true, decide_eq_true_eq, decide_eq_true_eq] at q2
      have e9 : Int.ofNat ts.length = hi - lo + 1 := hn9
      refine lv_tableOut hx hb hd ?_ hdt (g H locs ls lv r2 ws tys hK hP hD hS hh hl hn hL hs)
      rcases q2 with q2 | q2
      · exact Or.inl (by omega)
      · exact Or.inr (by omega)
    rw [decide_eq_true q1] at h
    have h9 := h
    clear h
    subst q1
    intro H locs ls lv sv ws tys hK hP hD hS hh hl hn hL hs
    obtain ⟨w2, r2, rfl, ⟨x, rfl, hx1, hx2⟩, hs⟩ := hs
    have ex9 : x.toInt = a1 := Int.le_antisymm hx2 hx1
    simp only [cond_true] at h9
    split at h9
    · next i hi =>
      split at h9
      · next t ht =>
        cases h9
        obtain ⟨off, ho, hoff⟩ := hts i pc' ht
        have hlt : i < ts.length := (List.getElem?_eq_some_iff.mp ht).1
        have hi2 : a1 - lo = (i : Int) := hi
        refine lv_tableIn hx hb hd (by omega) (by omega) (by rw [ex9, hi2]; exact ho) hoff (g H locs ls lv r2 ws tys hK hP hD hS hh hl hn hL hs)
      · next ht =>
        cases h9
        have hge : ts.length ≤ i := by simpa using ht
        have hi2 : a1 - lo = (i : Int) := hi
        exact lv_tableOut hx hb hd (Or.inr (by omega)) hdt (g H locs ls lv r2 ws tys hK hP hD hS hh hl hn hL hs)
    · next i hi =>
      cases h9
      have hi2 : a1 - lo = Int.negSucc i := hi
      exact lv_tableOut hx hb hd (Or.inl (by omega)) hdt (g H locs ls lv r2 ws tys hK hP hD hS hh hl hn hL hs)
theorem ev_lsf_ok {z dflt pcz : Int} {dt : Nat} (hdt : pcz + dflt = (dt : Int)) : ∀ {ps : List (Int × Int)} {qs : List (Int × Nat)}, ps.length = qs.length → (∀ (i : Nat) (k : Int) (t : Nat), qs[i]? = some (k, t) → ∃ off, ps[i]? = some (k, off) ∧ pcz + off = (t : Int)) → pcz + Op.lookupswitch.offset ps dflt z = ((ev_lsf z dt qs : Nat) : Int)
  | [], [], _, _ => by rw [show ev_lsf z dt [] = dt from rfl, ← hdt]; rfl
  | (k, off) :: ps, (k2, t) :: qs, hlen, h => by
    obtain ⟨off2, h1, h2⟩ := h 0 k2 t rfl
    have h1 : some (k, off) = some (k2, off2) := h1
    cases h1
    rw [Op.lookupswitch.offset_cons]
    show _ = ((cond (decide (z = k)) t (ev_lsf z dt qs) : Nat) : Int)
    by_cases hz : z = k
    · rw [if_pos (by first | exact hz | exact hz.symm), decide_eq_true hz]
      exact h2
    · rw [if_neg (by first | exact hz | exact fun q => hz q.symm), decide_eq_false hz]
      exact ev_lsf_ok hdt (by simpa using hlen) (fun i k t hi => by simpa using h (i + 1) k t (by simpa using hi))
theorem ev_lsw_ok (hx : p.tables.exec = Jvm.exec) (hb : c.code = cc) {dflt : Int} {ps : Array (Int × Int)} {len dt : Nat} {qs : List (Int × Nat)} (hd : decode cc pc = .ok (.lookupswitch dflt ps, len)) (hp : (ps.toList.zip (ps.toList.drop 1)).all (fun (a, next) => a.1 < next.1) = true) (hdt : (pc : Int) + dflt = (dt : Int)) (hlen : ps.toList.length = qs.length) (hqs : ∀ (i : Nat) (k : Int) (t : Nat), qs[i]? = some (k, t) → ∃ off, ps.toList[i]? = some (k, off) ∧ (pc : Int) + off = (t : Int)) : ev_Sim p l e R s m args below meth c Q nL D cl A H0 ex ad0 tyOf pc (ev_lsw qs dt) := by
  intro st pc' st' h g
  obtain ⟨stk, r⟩ := st
  match stk, h with
  | .inl (a1, a2) :: stk, h =>
    simp only [ev_lsw, ev_fN_eq] at h
    obtain ⟨q1, h9⟩ := ev_bt1 h
    clear h
    rw [decide_eq_true_eq] at q1
    subst q1
    cases h9
    intro H locs ls lv sv ws tys hK hP hD hS hh hl hn hL hs
    obtain ⟨w2, r2, rfl, ⟨x, rfl, hx1, hx2⟩, hs⟩ := hs
    have ex9 : x.toInt = a1 := Int.le_antisymm hx2 hx1
    exact lv_lookup hx hb hd hp rfl (by rw [ex9]; exact ev_lsf_ok hdt hlen hqs) (g H locs ls lv r2 ws tys hK hP hD hS hh hl hn hL hs)
end EvH
end KV09_outp
