noncomputable section KV03_math
/-! BRANCHES AND ARITHMETIC. -/
def ev_relP (k : Nat) (x y : Int) : Prop := match k with
  | 0 => x = y
  | 1 => ¬ x = y
  | 2 => x < y
  | 3 => y ≤ x
  | 4 => y < x
  | 5 => x ≤ y
  | _ => False
theorem ev_not_i {b : Option Bool} {r : Bool} (h : ev_not b = some r) : b = some (!r) := by
  match b, h with
  | some true, h => cases h; rfl
  | some false, h => cases h; rfl
theorem ev_rel_ok {k : Nat} {a b : Int × Int} {x y : Int} {r : Bool} (h : ev_rel k a b = some r) (ha : a.1 ≤ x) (ha2 : x ≤ a.2) (hb : b.1 ≤ y) (hb2 : y ≤ b.2) : (r = true → ev_relP k x y) ∧ (r = false → ¬ ev_relP k x y) := by
  match k, h with
  | 0, h =>
    refine ⟨fun e => ?_, fun e => ?_⟩ <;> subst e
    · exact ev_eq_t h ha ha2 hb hb2
    · exact ev_eq_f h ha ha2 hb hb2
  | 1, h =>
    refine ⟨fun e => ?_, fun e => ?_⟩ <;> subst e
    · exact ev_eq_f (ev_not_i h) ha ha2 hb hb2
    · exact fun z => z (ev_eq_t (ev_not_i h) ha ha2 hb hb2)
  | 2, h =>
    refine ⟨fun e => ?_, fun e => ?_⟩ <;> subst e
    · exact ev_lt_t h ha2 hb
    · exact ev_lt_f h ha hb2
  | 3, h =>
    refine ⟨fun e => ?_, fun e => ?_⟩ <;> subst e
    · exact Int.not_lt.mp (ev_lt_f (ev_not_i h) ha hb2)
    · exact Int.not_le.mpr (ev_lt_t (ev_not_i h) ha2 hb)
  | 4, h =>
    refine ⟨fun e => ?_, fun e => ?_⟩ <;> subst e
    · exact ev_lt_t h hb2 ha
    · exact ev_lt_f h hb ha2
  | 5, h =>
    refine ⟨fun e => ?_, fun e => ?_⟩ <;> subst e
    · exact Int.not_lt.mp (ev_lt_f (ev_not_i h) hb ha2)
    · exact Int.not_le.mpr (ev_lt_t (ev_not_i h) hb2 ha)
/-- two ints on the stack to one: known ones are reckoned -/
def ev_bin (f : Int → Int → Int) (n : Nat) : ev_I := fun st => match st with
  | (.inl (b1, b2) :: .inl (a1, a2) :: stk, r) => cond (decide (a1 = a2) && decide (b1 = b2)) (ev_fI (f a1 b1) (fun z => some (n, (.inl (z, z) :: stk, r)))) (some (n, (ev_any :: stk, r)))
  | _ => none
def ev_add (x y : Int) : Int := Int.bmod (x + y) 4294967296
def ev_sub (x y : Int) : Int := Int.bmod (x - y) 4294967296
def ev_mul (x y : Int) : Int := Int.bmod (x * y) 4294967296
def ev_u (x : Int) : Nat := (x % 4294967296).toNat
def ev_and (x y : Int) : Int := Int.bmod ((Nat.land (ev_u x) (ev_u y) : Nat) : Int) 4294967296
def ev_xor (x y : Int) : Int := Int.bmod ((Nat.xor (ev_u x) (ev_u y) : Nat) : Int) 4294967296
/-- two ints to one of which nothing is said; nothing of zero shifted is zero -/
def ev_shr (n : Nat) : ev_I := fun st => match st with
  | (.inl _ :: .inl _ :: stk, r) => some (n, (ev_any :: stk, r))
  | _ => none
def ev_ushr (n : Nat) : ev_I := fun st => match st with
  | (.inl _ :: .inl (a1, a2) :: stk, r) => cond (decide (a1 = 0) && decide (a2 = 0)) (some (n, (ev_int 0 :: stk, r))) (some (n, (ev_any :: stk, r)))
  | _ => none
/-- an int to an int: known ones are reckoned, others lie from lo to hi -/
def ev_un (f : Int → Int) (lo hi : Int) (n : Nat) : ev_I := fun st => match st with
  | (.inl (a1, a2) :: stk, r) => cond (decide (a1 = a2)) (ev_fI (f a1) (fun z => some (n, (.inl (z, z) :: stk, r)))) (some (n, (.inl (lo, hi) :: stk, r)))
  | _ => none
def ev_b8 (x : Int) : Int := Int.bmod x 256
def ev_c16 (x : Int) : Int := x % 65536
def ev_i2l (n : Nat) : ev_I := fun st => match st with
  | (.inl v :: stk, r) => some (n, (.inr (.inl v) :: stk, r))
  | _ => none
def ev_l2i (n : Nat) : ev_I := fun st => match st with
  | (.inr (.inl (a1, a2)) :: stk, r) => cond (decide (-2147483648 ≤ a1) && decide (a2 ≤ 2147483647)) (some (n, (.inl (a1, a2) :: stk, r))) (some (n, (ev_any :: stk, r)))
  | _ => none
def ev_ladd (n : Nat) : ev_I := fun st => match st with
  | (.inr (.inl (b1, b2)) :: .inr (.inl (a1, a2)) :: stk, r) => cond (decide (-9223372036854775808 ≤ a1 + b1) && decide (a2 + b2 ≤ 9223372036854775807)) (ev_fI (a1 + b1) (fun z => ev_fI (a2 + b2) (fun z2 => some (n, (.inr (.inl (z, z2)) :: stk, r))))) none
  | _ => none
def ev_lcmp (n : Nat) : ev_I := fun st => match st with
  | (.inr (.inl b) :: .inr (.inl a) :: stk, r) => match ev_lt a b with
    | some true => some (n, (ev_int (-1) :: stk, r))
    | _ => match ev_lt b a with
      | some true => some (n, (ev_int 1 :: stk, r))
      | _ => match ev_eq a b with
        | some true => some (n, (ev_int 0 :: stk, r))
        | _ => none
  | _ => none
theorem ev_u_eq (x : Int32) : ev_u x.toInt = x.toBitVec.toNat := by
  unfold ev_u
  rw [show x.toInt = x.toBitVec.toInt from rfl, BitVec.toInt_eq_toNat_cond]
  have h := x.toBitVec.isLt
  split <;> omega
theorem ev_and_ok (x y : Int32) : (x &&& y).toInt = ev_and x.toInt y.toInt := by
  unfold ev_and
  rw [ev_u_eq, ev_u_eq]
  rw [show (x &&& y).toInt = (x &&& y).toBitVec.toInt from rfl, BitVec.toInt_eq_toNat_bmod, Int32.toBitVec_and, BitVec.toNat_and]
  rfl
theorem ev_xor_ok (x y : Int32) : (x ^^^ y).toInt = ev_xor x.toInt y.toInt := by
  unfold ev_xor
  rw [ev_u_eq, ev_u_eq]
  rw [show (x ^^^ y).toInt = (x ^^^ y).toBitVec.toInt from rfl, BitVec.toInt_eq_toNat_bmod, Int32.toBitVec_xor, BitVec.toNat_xor]
  rfl
theorem ev_in (x : Int32) : -2147483648 ≤ x.toInt ∧ x.toInt ≤ 2147483647 := by
  have h1 := Int32.le_toInt x
  have h2 := Int32.toInt_lt x
  omega
theorem ev_c16_ok (x : Int32) : ((x.toUInt32 % 65536).toInt32).toInt = ev_c16 x.toInt := by
  rw [pk_char x]
  have h := x.toBitVec.isLt
  rw [nI_toInt (by omega)]
  unfold ev_c16
  rw [show x.toInt = x.toBitVec.toInt from rfl, BitVec.toInt_eq_toNat_cond]
  split <;> omega
theorem ev_b8_ok (x : Int32) : (x.toInt8.toInt32).toInt = ev_b8 x.toInt := by
  rw [Int8.toInt_toInt32, Int32.toInt_toInt8]
  rfl
theorem ev_b8_in (x : Int32) : -128 ≤ (x.toInt8.toInt32).toInt ∧ (x.toInt8.toInt32).toInt ≤ 127 := by
  rw [ev_b8_ok]
  unfold ev_b8
  rw [Int.bmod_def]
  split <;> omega
theorem ev_c16_in (x : Int32) : 0 ≤ ((x.toUInt32 % 65536).toInt32).toInt ∧ ((x.toUInt32 % 65536).toInt32).toInt ≤ 65535 := by
  rw [ev_c16_ok]
  unfold ev_c16
  omega
section EvB
variable {p : Program} {l : Launch} {e : Env} {R : Room} {s : State} {m : MethodId} {args : Array Value} {below : List Frame} {meth : Method} {c : Code} {Q : State → Prop} {nL : Nat} {D : va_G} {cl : List vw_C} {A : Nat → Prop} {H0 : Heap} {ex : Nat → Value} {ad0 : List Nat} {tyOf : Nat → FieldType}
variable {cc : ByteArray} {pc : Nat}
theorem ev_to_i {n t : Nat} {b : Option Bool} {st st' : ev_S} {pc' : Nat} (h : ev_to n t b st = some (pc', st')) : ∃ r, b = some r ∧ pc' = (if r then t else n) ∧ st' = st := by
  match b, h with
  | some true, h => cases h; exact ⟨true, rfl, rfl, rfl⟩
  | some false, h => cases h; exact ⟨false, rfl, rfl, rfl⟩
theorem ev_icmp_gen {k n t : Nat} {P : Int32 → Int32 → Prop} (hP : ∀ x y : Int32, P x y ↔ ev_relP k x.toInt y.toInt)
    (row : ∀ (H : Heap) (locs : List Loc) (cells slots : Nat) (ls : Array Slot) (rest : List Value) (x y : Int32), (P x y → W p l e R s m args below meth c H locs cells slots Q (F0 m t ls rest)) → (¬ P x y → W p l e R s m args below meth c H locs cells slots Q (F0 m n ls rest)) → W p l e R s m args below meth c H locs cells slots Q (F0 m pc ls (.int y :: .int x :: rest))) : ev_Sim p l e R s m args below meth c Q nL D cl A H0 ex ad0 tyOf pc (ev_icmp k n t) := by
  intro st pc' st' h g
  obtain ⟨stk, r⟩ := st
  match stk, h with
  | .inl b :: .inl a :: stk, h =>
    obtain ⟨q, e1, rfl, rfl⟩ := ev_to_i h
    intro H locs ls lv sv ws tys hK hPP hD hS hh hl hn hL hs
    obtain ⟨w, r1, rfl, ⟨y, rfl, hy1, hy2⟩, w2, r2, rfl, ⟨x, rfl, hx1, hx2⟩, hs⟩ := hs
    obtain ⟨f1, f2⟩ := ev_rel_ok e1 hx1 hx2 hy1 hy2
    refine row H locs _ _ ls r2 x y (fun z => ?_) (fun z => ?_)
    · cases q with
      | true => exact g H locs ls lv r2 ws tys hK hPP hD hS hh hl hn hL hs
      | false => exact absurd ((hP x y).mp z) (f2 rfl)
    · cases q with
      | true => exact absurd ((hP x y).mpr (f1 rfl)) z
      | false => exact g H locs ls lv r2 ws tys hK hPP hD hS hh hl hn hL hs
theorem ev_if_gen {k n t : Nat} {P : Int32 → Prop} (hP : ∀ x : Int32, P x ↔ ev_relP k x.toInt 0)
    (row : ∀ (H : Heap) (locs : List Loc) (cells slots : Nat) (ls : Array Slot) (rest : List Value) (x : Int32), (P x → W p l e R s m args below meth c H locs cells slots Q (F0 m t ls rest)) → (¬ P x → W p l e R s m args below meth c H locs cells slots Q (F0 m n ls rest)) → W p l e R s m args below meth c H locs cells slots Q (F0 m pc ls (.int x :: rest))) : ev_Sim p l e R s m args below meth c Q nL D cl A H0 ex ad0 tyOf pc (ev_if k n t) := by
  intro st pc' st' h g
  obtain ⟨stk, r⟩ := st
  match stk, h with
  | .inl a :: stk, h =>
    obtain ⟨q, e1, rfl, rfl⟩ := ev_to_i h
    intro H locs ls lv sv ws tys hK hPP hD hS hh hl hn hL hs
    obtain ⟨w2, r2, rfl, ⟨x, rfl, hx1, hx2⟩, hs⟩ := hs
    obtain ⟨f1, f2⟩ := ev_rel_ok e1 hx1 hx2 (Int.le_refl 0) (Int.le_refl 0)
    refine row H locs _ _ ls r2 x (fun z => ?_) (fun z => ?_)
    · cases q with
      | true => exact g H locs ls lv r2 ws tys hK hPP hD hS hh hl hn hL hs
      | false => exact absurd ((hP x).mp z) (f2 rfl)
    · cases q with
      | true => exact absurd ((hP x).mpr (f1 rfl)) z
      | false => exact g H locs ls lv r2 ws tys hK hPP hD hS hh hl hn hL hs
theorem ev_icmp_eq_ok (hx : p.tables.exec = Jvm.exec) (hb : c.code = cc) {off : Int} {t : Nat} (hd : decode cc pc = .ok (.if_icmp .eq off, 3)) (ht : (pc : Int) + off = (t : Int)) : ev_Sim p l e R s m args below meth c Q nL D cl A H0 ex ad0 tyOf pc (ev_icmp 0 (pc + 3) t) :=
  ev_icmp_gen (P := fun x y => x = y) (fun x y => Int32.toInt_inj.symm) (fun _ _ _ _ _ _ _ _ kt kf => lv_icmp_eq hx hb hd ht kt kf)
theorem ev_icmp_ne_ok (hx : p.tables.exec = Jvm.exec) (hb : c.code = cc) {off : Int} {t : Nat} (hd : decode cc pc = .ok (.if_icmp .ne off, 3)) (ht : (pc : Int) + off = (t : Int)) : ev_Sim p l e R s m args below meth c Q nL D cl A H0 ex ad0 tyOf pc (ev_icmp 1 (pc + 3) t) :=
  ev_icmp_gen (P := fun x y => ¬ x = y) (fun x y => not_congr Int32.toInt_inj.symm) (fun _ _ _ _ _ _ _ _ kt kf => lv_icmp_ne hx hb hd ht kt (fun z => kf (fun w => w z)))
theorem ev_icmp_lt_ok (hx : p.tables.exec = Jvm.exec) (hb : c.code = cc) {off : Int} {t : Nat} (hd : decode cc pc = .ok (.if_icmp .lt off, 3)) (ht : (pc : Int) + off = (t : Int)) : ev_Sim p l e R s m args below meth c Q nL D cl A H0 ex ad0 tyOf pc (ev_icmp 2 (pc + 3) t) :=
  ev_icmp_gen (P := fun x y => x < y) (fun x y => Int32.lt_iff_toInt_lt) (fun _ _ _ _ _ _ _ _ kt kf => lv_icmp_lt hx hb hd ht kt kf)
theorem ev_icmp_ge_ok (hx : p.tables.exec = Jvm.exec) (hb : c.code = cc) {off : Int} {t : Nat} (hd : decode cc pc = .ok (.if_icmp .ge off, 3)) (ht : (pc : Int) + off = (t : Int)) : ev_Sim p l e R s m args below meth c Q nL D cl A H0 ex ad0 tyOf pc (ev_icmp 3 (pc + 3) t) :=
  ev_icmp_gen (P := fun x y => y ≤ x) (fun x y => Int32.le_iff_toInt_le) (fun _ _ _ _ _ _ _ _ kt kf => lv_icmp_ge hx hb hd ht kt kf)
theorem ev_icmp_gt_ok (hx : p.tables.exec = Jvm.exec) (hb : c.code = cc) {off : Int} {t : Nat} (hd : decode cc pc = .ok (.if_icmp .gt off, 3)) (ht : (pc : Int) + off = (t : Int)) : ev_Sim p l e R s m args below meth c Q nL D cl A H0 ex ad0 tyOf pc (ev_icmp 4 (pc + 3) t) :=
  ev_icmp_gen (P := fun x y => y < x) (fun x y => Int32.lt_iff_toInt_lt) (fun _ _ _ _ _ _ _ _ kt kf => lv_icmp_gt hx hb hd ht kt kf)
theorem ev_icmp_le_ok (hx : p.tables.exec = Jvm.exec) (hb : c.code = cc) {off : Int} {t : Nat} (hd : decode cc pc = .ok (.if_icmp .le off, 3)) (ht : (pc : Int) + off = (t : Int)) : ev_Sim p l e R s m args below meth c Q nL D cl A H0 ex ad0 tyOf pc (ev_icmp 5 (pc + 3) t) :=
  ev_icmp_gen (P := fun x y => x ≤ y) (fun x y => Int32.le_iff_toInt_le) (fun _ _ _ _ _ _ _ _ kt kf => lv_icmp_le hx hb hd ht kt kf)
theorem ev_if_eq_ok (hx : p.tables.exec = Jvm.exec) (hb : c.code = cc) {off : Int} {t : Nat} (hd : decode cc pc = .ok (.ifCond .eq off, 3)) (ht : (pc : Int) + off = (t : Int)) : ev_Sim p l e R s m args below meth c Q nL D cl A H0 ex ad0 tyOf pc (ev_if 0 (pc + 3) t) :=
  ev_if_gen (P := fun x => x = 0) (fun x => (Int32.toInt_inj (y := 0)).symm) (fun _ _ _ _ _ _ _ kt kf => lv_if_eq hx hb hd ht kt kf)
theorem ev_if_ne_ok (hx : p.tables.exec = Jvm.exec) (hb : c.code = cc) {off : Int} {t : Nat} (hd : decode cc pc = .ok (.ifCond .ne off, 3)) (ht : (pc : Int) + off = (t : Int)) : ev_Sim p l e R s m args below meth c Q nL D cl A H0 ex ad0 tyOf pc (ev_if 1 (pc + 3) t) :=
  ev_if_gen (P := fun x => ¬ x = 0) (fun x => not_congr (Int32.toInt_inj (y := 0)).symm) (fun _ _ _ _ _ _ _ kt kf => lv_if_ne hx hb hd ht kt (fun z => kf (fun w => w z)))
theorem ev_if_lt_ok (hx : p.tables.exec = Jvm.exec) (hb : c.code = cc) {off : Int} {t : Nat} (hd : decode cc pc = .ok (.ifCond .lt off, 3)) (ht : (pc : Int) + off = (t : Int)) : ev_Sim p l e R s m args below meth c Q nL D cl A H0 ex ad0 tyOf pc (ev_if 2 (pc + 3) t) :=
  ev_if_gen (P := fun x => x < 0) (fun x => Int32.lt_iff_toInt_lt (y := 0)) (fun _ _ _ _ _ _ _ kt kf => lv_if_lt hx hb hd ht kt kf)
theorem ev_if_ge_ok (hx : p.tables.exec = Jvm.exec) (hb : c.code = cc) {off : Int} {t : Nat} (hd : decode cc pc = .ok (.ifCond .ge off, 3)) (ht : (pc : Int) + off = (t : Int)) : ev_Sim p l e R s m args below meth c Q nL D cl A H0 ex ad0 tyOf pc (ev_if 3 (pc + 3) t) :=
  ev_if_gen (P := fun x => 0 ≤ x) (fun x => Int32.le_iff_toInt_le (x := 0)) (fun _ _ _ _ _ _ _ kt kf => lv_if_ge hx hb hd ht kt kf)
theorem ev_if_gt_ok (hx : p.tables.exec = Jvm.exec) (hb : c.code = cc) {off : Int} {t : Nat} (hd : decode cc pc = .ok (.ifCond .gt off, 3)) (ht : (pc : Int) + off = (t : Int)) : ev_Sim p l e R s m args below meth c Q nL D cl A H0 ex ad0 tyOf pc (ev_if 4 (pc + 3) t) :=
  ev_if_gen (P := fun x => 0 < x) (fun x => Int32.lt_iff_toInt_lt (x := 0)) (fun _ _ _ _ _ _ _ kt kf => lv_if_gt hx hb hd ht kt kf)
theorem ev_if_le_ok (hx : p.tables.exec = Jvm.exec) (hb : c.code = cc) {off : Int} {t : Nat} (hd : decode cc pc = .ok (.ifCond .le off, 3)) (ht : (pc : Int) + off = (t : Int)) : ev_Sim p l e R s m args below meth c Q nL D cl A H0 ex ad0 tyOf pc (ev_if 5 (pc + 3) t) :=
  ev_if_gen (P := fun x => x ≤ 0) (fun x => Int32.le_iff_toInt_le (y := 0)) (fun _ _ _ _ _ _ _ kt kf => lv_if_le hx hb hd ht kt kf)
theorem ev_ifnull_ok (hx : p.tables.exec = Jvm.exec) (hb : c.code = cc) {off : Int} {t : Nat} (hd : decode cc pc = .ok (.ifnull off, 3)) (ht : (pc : Int) + off = (t : Int)) : ev_Sim p l e R s m args below meth c Q nL D cl A H0 ex ad0 tyOf pc (ev_ifnull (pc + 3) t) := by
  intro st pc' st' h g
  obtain ⟨stk, r⟩ := st
  match stk, h with
  | .inr (.inr none) :: stk, h =>
    cases h
    intro H locs ls lv sv ws tys hK hP hD hS hh hl hn hL hs
    obtain ⟨w, q, rfl, hw, hq⟩ := hs
    rw [show w = Value.null from hw]
    exact lv_ifnullN hx hb hd ht (g H locs ls lv q ws tys hK hP hD hS hh hl hn hL hq)
  | .inr (.inr (some (.inl u))) :: stk, h =>
    cases h
    intro H locs ls lv sv ws tys hK hP hD hS hh hl hn hL hs
    obtain ⟨w, q, rfl, hw, hq⟩ := hs
    obtain ⟨a, -, rfl⟩ := hw
    exact lv_ifnull hx hb hd (g H locs ls lv q ws tys hK hP hD hS hh hl hn hL hq)
theorem ev_ifnonnull_ok (hx : p.tables.exec = Jvm.exec) (hb : c.code = cc) {off : Int} {t : Nat} (hd : decode cc pc = .ok (.ifnonnull off, 3)) (ht : (pc : Int) + off = (t : Int)) : ev_Sim p l e R s m args below meth c Q nL D cl A H0 ex ad0 tyOf pc (ev_ifnonnull (pc + 3) t) := by
  intro st pc' st' h g
  obtain ⟨stk, r⟩ := st
  match stk, h with
  | .inr (.inr none) :: stk, h =>
    cases h
    intro H locs ls lv sv ws tys hK hP hD hS hh hl hn hL hs
    obtain ⟨w, q, rfl, hw, hq⟩ := hs
    rw [show w = Value.null from hw]
    exact lv_ifnonnullN hx hb hd (g H locs ls lv q ws tys hK hP hD hS hh hl hn hL hq)
  | .inr (.inr (some (.inl u))) :: stk, h =>
    cases h
    intro H locs ls lv sv ws tys hK hP hD hS hh hl hn hL hs
    obtain ⟨w, q, rfl, hw, hq⟩ := hs
    obtain ⟨a, -, rfl⟩ := hw
    exact lv_ifnonnull hx hb hd ht (g H locs ls lv q ws tys hK hP hD hS hh hl hn hL hq)
theorem ev_bin_gen {f : Int → Int → Int} {op : Int32 → Int32 → Int32} {n : Nat} (hop : ∀ x y : Int32, (op x y).toInt = f x.toInt y.toInt)
    (row : ∀ (H : Heap) (locs : List Loc) (cells slots : Nat) (ls : Array Slot) (rest : List Value) (x y : Int32), W p l e R s m args below meth c H locs cells slots Q (F0 m n ls (.int (op x y) :: rest)) → W p l e R s m args below meth c H locs cells slots Q (F0 m pc ls (.int y :: .int x :: rest))) : ev_Sim p l e R s m args below meth c Q nL D cl A H0 ex ad0 tyOf pc (ev_bin f n) := by
  intro st pc' st' h g
  obtain ⟨stk, r⟩ := st
  match stk, h with
  | .inl (b1, b2) :: .inl (a1, a2) :: stk, h =>
    simp only [ev_bin, ev_fI_eq] at h
    intro H locs ls lv sv ws tys hK hP hD hS hh hl hn hL hs
    obtain ⟨w, r1, rfl, ⟨y, rfl, hy1, hy2⟩, w2, r2, rfl, ⟨x, rfl, hx1, hx2⟩, hs⟩ := hs
    refine row H locs _ _ ls r2 x y ?_
    by_cases q : a1 = a2
    · by_cases q2 : b1 = b2
      · rw [decide_eq_true q, decide_eq_true q2] at h
        cases h
        have ex9 : x.toInt = a1 := by omega
        have ey9 : y.toInt = b1 := by omega
        have e9 : (op x y).toInt = f a1 b1 := by rw [hop, ex9, ey9]
        exact g H locs ls lv (.int (op x y) :: r2) ws tys hK hP hD hS hh hl hn hL ⟨_, _, rfl, ⟨_, rfl, by rw [e9]; exact Int.le_refl _, by rw [e9]; exact Int.le_refl _⟩, hs⟩
      · rw [decide_eq_false q2, Bool.and_false] at h
        cases h
        exact g H locs ls lv (.int (op x y) :: r2) ws tys hK hP hD hS hh hl hn hL ⟨_, _, rfl, ⟨_, rfl, ev_in _⟩, hs⟩
    · rw [decide_eq_false q] at h
      cases h
      exact g H locs ls lv (.int (op x y) :: r2) ws tys hK hP hD hS hh hl hn hL ⟨_, _, rfl, ⟨_, rfl, ev_in _⟩, hs⟩
theorem ev_iadd_ok (hx : p.tables.exec = Jvm.exec) (hb : c.code = cc) (hd : decode cc pc = .ok (.iadd, 1)) : ev_Sim p l e R s m args below meth c Q nL D cl A H0 ex ad0 tyOf pc (ev_bin ev_add (pc + 1)) :=
  ev_bin_gen (op := fun x y => x + y) (fun x y => Int32.toInt_add x y) (fun _ _ _ _ _ _ _ _ k => lv_iadd hx hb hd k)
theorem ev_isub_ok (hx : p.tables.exec = Jvm.exec) (hb : c.code = cc) (hd : decode cc pc = .ok (.isub, 1)) : ev_Sim p l e R s m args below meth c Q nL D cl A H0 ex ad0 tyOf pc (ev_bin ev_sub (pc + 1)) :=
  ev_bin_gen (op := fun x y => x - y) (fun x y => Int32.toInt_sub x y) (fun _ _ _ _ _ _ _ _ k => lv_isub hx hb hd k)
theorem ev_imul_ok (hx : p.tables.exec = Jvm.exec) (hb : c.code = cc) (hd : decode cc pc = .ok (.imul, 1)) : ev_Sim p l e R s m args below meth c Q nL D cl A H0 ex ad0 tyOf pc (ev_bin ev_mul (pc + 1)) :=
  ev_bin_gen (op := fun x y => x * y) (fun x y => Int32.toInt_mul x y) (fun _ _ _ _ _ _ _ _ k => lv_imul hx hb hd k)
theorem ev_iand_ok (hx : p.tables.exec = Jvm.exec) (hb : c.code = cc) (hd : decode cc pc = .ok (.iand, 1)) : ev_Sim p l e R s m args below meth c Q nL D cl A H0 ex ad0 tyOf pc (ev_bin ev_and (pc + 1)) :=
  ev_bin_gen (op := fun x y => x &&& y) (fun x y => ev_and_ok x y) (fun _ _ _ _ _ _ _ _ k => lv_iand hx hb hd k)
theorem ev_ixor_ok (hx : p.tables.exec = Jvm.exec) (hb : c.code = cc) (hd : decode cc pc = .ok (.ixor, 1)) : ev_Sim p l e R s m args below meth c Q nL D cl A H0 ex ad0 tyOf pc (ev_bin ev_xor (pc + 1)) :=
  ev_bin_gen (op := fun x y => x ^^^ y) (fun x y => ev_xor_ok x y) (fun _ _ _ _ _ _ _ _ k => lv_ixor hx hb hd k)
theorem ev_ishr_ok (hx : p.tables.exec = Jvm.exec) (hb : c.code = cc) (hd : decode cc pc = .ok (.ishr, 1)) : ev_Sim p l e R s m args below meth c Q nL D cl A H0 ex ad0 tyOf pc (ev_shr (pc + 1)) := by
  intro st pc' st' h g
  obtain ⟨stk, r⟩ := st
  match stk, h with
  | .inl b :: .inl a :: stk, h =>
    cases h
    intro H locs ls lv sv ws tys hK hP hD hS hh hl hn hL hs
    obtain ⟨w, r1, rfl, ⟨y, rfl, hy1, hy2⟩, w2, r2, rfl, ⟨x, rfl, hx1, hx2⟩, hs⟩ := hs
    exact lv_ishr hx hb hd (g H locs ls lv (.int _ :: r2) ws tys hK hP hD hS hh hl hn hL ⟨_, _, rfl, ⟨_, rfl, ev_in _⟩, hs⟩)
theorem ev_ushr0 (y : Int32) : ((0 : Int32).toUInt32 >>> (y.toUInt32 &&& Int32.toUInt32 31)).toInt32 = 0 := by
  have h := pk_ushr 0 y _ rfl
  rw [show (0 : Int32).toBitVec.toNat = 0 from rfl, Nat.zero_div] at h
  exact Int32.toBitVec_inj.mp (BitVec.eq_of_toNat_eq (h.trans rfl))
theorem ev_iushr_ok (hx : p.tables.exec = Jvm.exec) (hb : c.code = cc) (hd : decode cc pc = .ok (.iushr, 1)) : ev_Sim p l e R s m args below meth c Q nL D cl A H0 ex ad0 tyOf pc (ev_ushr (pc + 1)) := by
  intro st pc' st' h g
  obtain ⟨stk, r⟩ := st
  match stk, h with
  | .inl b :: .inl (a1, a2) :: stk, h =>
    simp only [ev_ushr] at h
    intro H locs ls lv sv ws tys hK hP hD hS hh hl hn hL hs
    obtain ⟨w, r1, rfl, ⟨y, rfl, hy1, hy2⟩, w2, r2, rfl, ⟨x, rfl, hx1, hx2⟩, hs⟩ := hs
    refine lv_iushr hx hb hd rfl ?_
    by_cases q : a1 = 0
    · by_cases q2 : a2 = 0
      · rw [decide_eq_true q, decide_eq_true q2] at h
        cases h
        have ex9 : x = 0 := Int32.toInt_inj.mp (show x.toInt = 0 by omega)
        subst ex9
        rw [ev_ushr0]
        exact g H locs ls lv (.int 0 :: r2) ws tys hK hP hD hS hh hl hn hL ⟨_, _, rfl, ⟨0, rfl, Int.le_refl _, Int.le_refl _⟩, hs⟩
      · rw [decide_eq_false q2, Bool.and_false] at h
        cases h
        exact g H locs ls lv (.int _ :: r2) ws tys hK hP hD hS hh hl hn hL ⟨_, _, rfl, ⟨_, rfl, ev_in _⟩, hs⟩
    · rw [decide_eq_false q] at h
      cases h
      exact g H locs ls lv (.int _ :: r2) ws tys hK hP hD hS hh hl hn hL ⟨_, _, rfl, ⟨_, rfl, ev_in _⟩, hs⟩
theorem ev_un_gen {f : Int → Int} {op : Int32 → Int32} {lo hi : Int} {n : Nat} (hop : ∀ x : Int32, (op x).toInt = f x.toInt) (hin : ∀ x : Int32, lo ≤ (op x).toInt ∧ (op x).toInt ≤ hi)
    (row : ∀ (H : Heap) (locs : List Loc) (cells slots : Nat) (ls : Array Slot) (rest : List Value) (x : Int32), W p l e R s m args below meth c H locs cells slots Q (F0 m n ls (.int (op x) :: rest)) → W p l e R s m args below meth c H locs cells slots Q (F0 m pc ls (.int x :: rest))) : ev_Sim p l e R s m args below meth c Q nL D cl A H0 ex ad0 tyOf pc (ev_un f lo hi n) := by
  intro st pc' st' h g
  obtain ⟨stk, r⟩ := st
  match stk, h with
  | .inl (a1, a2) :: stk, h =>
    simp only [ev_un, ev_fI_eq] at h
    intro H locs ls lv sv ws tys hK hP hD hS hh hl hn hL hs
    obtain ⟨w2, r2, rfl, ⟨x, rfl, hx1, hx2⟩, hs⟩ := hs
    refine row H locs _ _ ls r2 x ?_
    by_cases q : a1 = a2
    · rw [decide_eq_true q] at h
      cases h
      have e9 : (op x).toInt = f a1 := by rw [hop, show x.toInt = a1 by omega]
      exact g H locs ls lv (.int (op x) :: r2) ws tys hK hP hD hS hh hl hn hL ⟨_, _, rfl, ⟨_, rfl, by rw [e9]; exact Int.le_refl _, by rw [e9]; exact Int.le_refl _⟩, hs⟩
    · rw [decide_eq_false q] at h
      cases h
      exact g H locs ls lv (.int (op x) :: r2) ws tys hK hP hD hS hh hl hn hL ⟨_, _, rfl, ⟨_, rfl, hin x⟩, hs⟩
theorem ev_i2b_ok (hx : p.tables.exec = Jvm.exec) (hb : c.code = cc) (hd : decode cc pc = .ok (.i2b, 1)) : ev_Sim p l e R s m args below meth c Q nL D cl A H0 ex ad0 tyOf pc (ev_un ev_b8 (-128) 127 (pc + 1)) :=
  ev_un_gen (op := fun x => x.toInt8.toInt32) ev_b8_ok ev_b8_in (fun _ _ _ _ _ _ _ k => lv_i2b hx hb hd rfl k)
theorem ev_i2c_ok (hx : p.tables.exec = Jvm.exec) (hb : c.code = cc) (hd : decode cc pc = .ok (.i2c, 1)) : ev_Sim p l e R s m args below meth c Q nL D cl A H0 ex ad0 tyOf pc (ev_un ev_c16 0 65535 (pc + 1)) :=
  ev_un_gen (op := fun x => (x.toUInt32 % 65536).toInt32) ev_c16_ok ev_c16_in (fun _ _ _ _ _ _ _ k => lv_i2c hx hb hd rfl k)
theorem ev_i2l_ok (hx : p.tables.exec = Jvm.exec) (hb : c.code = cc) (hd : decode cc pc = .ok (.i2l, 1)) : ev_Sim p l e R s m args below meth c Q nL D cl A H0 ex ad0 tyOf pc (ev_i2l (pc + 1)) := by
  intro st pc' st' h g
  obtain ⟨stk, r⟩ := st
  match stk, h with
  | .inl (a1, a2) :: stk, h =>
    cases h
    intro H locs ls lv sv ws tys hK hP hD hS hh hl hn hL hs
    obtain ⟨w2, r2, rfl, ⟨x, rfl, hx1, hx2⟩, hs⟩ := hs
    exact lv_i2l hx hb hd rfl (g H locs ls lv (.long x.toInt64 :: r2) ws tys hK hP hD hS hh hl hn hL ⟨_, _, rfl, ⟨_, rfl, by rw [Int32.toInt_toInt64]; exact hx1, by rw [Int32.toInt_toInt64]; exact hx2⟩, hs⟩)
theorem ev_l2i_ok (hx : p.tables.exec = Jvm.exec) (hb : c.code = cc) (hd : decode cc pc = .ok (.l2i, 1)) : ev_Sim p l e R s m args below meth c Q nL D cl A H0 ex ad0 tyOf pc (ev_l2i (pc + 1)) := by
  intro st pc' st' h g
  obtain ⟨stk, r⟩ := st
  match stk, h with
  | .inr (.inl (a1, a2)) :: stk, h =>
    simp only [ev_l2i] at h
    intro H locs ls lv sv ws tys hK hP hD hS hh hl hn hL hs
    obtain ⟨w2, r2, rfl, ⟨x, rfl, hx1, hx2⟩, hs⟩ := hs
    refine lv_l2i hx hb hd rfl ?_
    by_cases q : -2147483648 ≤ a1 ∧ a2 ≤ 2147483647
    · rw [decide_eq_true q.1, decide_eq_true q.2] at h
      cases h
      have e9 : x.toInt32.toInt = x.toInt := by
        rw [Int64.toInt_toInt32]
        have h1 := q.1
        have h2 := q.2
        rw [show (2 : Nat) ^ 32 = 4294967296 from rfl, Int.bmod_def]
        split <;> omega
      exact g H locs ls lv (.int x.toInt32 :: r2) ws tys hK hP hD hS hh hl hn hL ⟨_, _, rfl, ⟨_, rfl, by rw [e9]; exact hx1, by rw [e9]; exact hx2⟩, hs⟩
    · have hq : (decide (-2147483648 ≤ a1) && decide (a2 ≤ 2147483647)) = false := by
        rw [← Bool.decide_and]
        exact decide_eq_false q
      rw [hq] at h
      cases h
      exact g H locs ls lv (.int x.toInt32 :: r2) ws tys hK hP hD hS hh hl hn hL ⟨_, _, rfl, ⟨_, rfl, ev_in _⟩, hs⟩
theorem ev_ladd_ok (hx : p.tables.exec = Jvm.exec) (hb : c.code = cc) (hd : decode cc pc = .ok (.ladd, 1)) : ev_Sim p l e R s m args below meth c Q nL D cl A H0 ex ad0 tyOf pc (ev_ladd (pc + 1)) := by
  intro st pc' st' h g
  obtain ⟨stk, r⟩ := st
  match stk, h with
  | .inr (.inl (b1, b2)) :: .inr (.inl (a1, a2)) :: stk, h =>
    simp only [ev_ladd, ev_fI_eq] at h
    by_cases q : -9223372036854775808 ≤ a1 + b1 ∧ a2 + b2 ≤ 9223372036854775807
    · rw [decide_eq_true q.1, decide_eq_true q.2] at h
      cases h
      intro H locs ls lv sv ws tys hK hP hD hS hh hl hn hL hs
      obtain ⟨w, r1, rfl, ⟨y, rfl, hy1, hy2⟩, w2, r2, rfl, ⟨x, rfl, hx1, hx2⟩, hs⟩ := hs
      have e9 : (x + y).toInt = x.toInt + y.toInt := by
        rw [Int64.toInt_add]
        have h1 := q.1
        have h2 := q.2
        rw [show (2 : Nat) ^ 64 = 18446744073709551616 from rfl, Int.bmod_def]
        split <;> omega
      exact lv_ladd hx hb hd (g H locs ls lv (.long (x + y) :: r2) ws tys hK hP hD hS hh hl hn hL ⟨_, _, rfl, ⟨_, rfl, by rw [e9]; omega, by rw [e9]; omega⟩, hs⟩)
    · have hq : (decide (-9223372036854775808 ≤ a1 + b1) && decide (a2 + b2 ≤ 9223372036854775807)) = false := by
        rw [← Bool.decide_and]
        exact decide_eq_false q
      rw [hq] at h
      cases h
theorem ev_lcmp_ok (hx : p.tables.exec = Jvm.exec) (hb : c.code = cc) (hd : decode cc pc = .ok (.lcmp, 1)) : ev_Sim p l e R s m args below meth c Q nL D cl A H0 ex ad0 tyOf pc (ev_lcmp (pc + 1)) := by
  intro st pc' st' h g
  obtain ⟨stk, r⟩ := st
  match stk, h with
  | .inr (.inl b) :: .inr (.inl a) :: stk, h =>
    simp only [ev_lcmp] at h
    have key : ∃ z : Int, pc' = pc + 1 ∧ st' = (ev_int z :: stk, r) ∧ ∀ x y : Int64, a.1 ≤ x.toInt → x.toInt ≤ a.2 → b.1 ≤ y.toInt → y.toInt ≤ b.2 → (lg_cmp x y).toInt = z := by
      split at h
      · next q =>
        cases h
        refine ⟨-1, rfl, rfl, fun x y h1 h2 h3 h4 => ?_⟩
        have h5 : x < y := Int64.lt_iff_toInt_lt.mpr (ev_lt_t q h2 h3)
        have h6 : ¬ y < x := fun z => by have := Int64.lt_iff_toInt_lt.mp z; have := Int64.lt_iff_toInt_lt.mp h5; omega
        have h7 : ¬ x = y := fun z => by rw [z] at h5; exact absurd h5 (fun w => by have := Int64.lt_iff_toInt_lt.mp w; omega)
        simp [lg_cmp, h6, h7]
      · split at h
        · next q =>
          cases h
          refine ⟨1, rfl, rfl, fun x y h1 h2 h3 h4 => ?_⟩
          have h5 : y < x := Int64.lt_iff_toInt_lt.mpr (ev_lt_t q h4 h1)
          simp [lg_cmp, h5]
        · split at h
          · next q =>
            cases h
            refine ⟨0, rfl, rfl, fun x y h1 h2 h3 h4 => ?_⟩
            have h5 : x = y := Int64.toInt_inj.mp (ev_eq_t q h1 h2 h3 h4)
            subst h5
            have h6 : ¬ x < x := fun z => by have := Int64.lt_iff_toInt_lt.mp z; omega
            simp [lg_cmp, h6]
          · cases h
    obtain ⟨z, rfl, rfl, hz⟩ := key
    intro H locs ls lv sv ws tys hK hP hD hS hh hl hn hL hs
    obtain ⟨b1, b2⟩ := b
    obtain ⟨a1, a2⟩ := a
    obtain ⟨w, r1, rfl, ⟨y, rfl, hy1, hy2⟩, w2, r2, rfl, ⟨x, rfl, hx1, hx2⟩, hs⟩ := hs
    have e9 := hz x y hx1 hx2 hy1 hy2
    exact W.lcmp hx hb hd (g H locs ls lv (.int (lg_cmp x y) :: r2) ws tys hK hP hD hS hh hl hn hL ⟨_, _, rfl, ⟨_, rfl, by rw [e9]; exact Int.le_refl _, by rw [e9]; exact Int.le_refl _⟩, hs⟩)
theorem ev_iinc_ok (hx : p.tables.exec = Jvm.exec) (hb : c.code = cc) {i : Nat} {d : Int} (hd : decode cc pc = .ok (.iinc i d, 3)) (hr : (Int32.ofInt d).toInt = d) : ev_Sim p l e R s m args below meth c Q nL D cl A H0 ex ad0 tyOf pc (ev_iinc (pc + 3) i d) := by
  intro st pc' st' h g
  obtain ⟨stk, L, r⟩ := st
  simp only [ev_iinc, ev_lg_eq, ev_fI_eq, ev_ls_eq] at h
  split at h
  · next lo hi hv =>
    by_cases q : lo = hi
    · rw [decide_eq_true q] at h
      cases hf : ev_free L i with
      | false => rw [hf] at h; cases h
      | true =>
        rw [hf] at h
        have hlt : i < L.length := (List.getElem?_eq_some_iff.mp hv).1
        simp only [Bool.and_self, cond_true, if_pos hlt] at h
        cases h
        intro H locs ls lv sv ws tys hK hP hD hS hh hl hn hL hs
        obtain ⟨w, hw, x, rfl, h1, h2⟩ := hL i _ hv
        obtain ⟨k, hk⟩ := List.getElem?_of_mem hw
        have e9 : (x + Int32.ofInt d).toInt = ev_wr32 (lo + d) := by
          rw [Int32.toInt_add, hr, show x.toInt = lo by omega]
          rfl
        refine lv_iinc hx hb hd hl hk rfl (by rw [← hn]; exact hlt) rfl (fun ls' hl' => ?_)
        exact g H locs ls' _ sv ws tys hK hP hD hS hh hl' (by rw [List.length_set]; exact hn) (ev_lR_set hL hf ⟨_, rfl, by rw [e9]; exact Int.le_refl _, by rw [e9]; exact Int.le_refl _⟩) hs
    · rw [decide_eq_false q] at h
      cases h
  · cases h
end EvB
end KV03_math
