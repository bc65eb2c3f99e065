noncomputable section KV14_max
/-! THE GREATER OF TWO INTS. -/
def ev_max (n : Nat) : ev_I := fun st => match st with
  | (.inl (b1, b2) :: .inl (a1, a2) :: stk, r) => cond (decide (a1 = a2) && (decide (b1 = b2) && Nat.ble (ev_cats stk) 8)) (cond (decide (a1 < b1)) (some (n, (.inl (b1, b1) :: stk, r))) (some (n, (.inl (a1, a1) :: stk, r)))) none
  | _ => none
def ev_maxc (n cm sm : Nat) : ev_I := fun st => match ev_max n st with
  | some (pc', (stk, L, h, (c1, n1))) => cond (Nat.ble c1 cm && Nat.ble n1 sm) (some (pc', (stk, L, h, (c1, n1)))) none
  | none => none
section KMax
variable {p : Program} {l : Launch} {e : Env} {R : Room} {s : State} {m : MethodId} {args : Array Value} {below : List Frame} {meth : Method} {c : Code} {Q : State → Prop} {nL : Nat} {D : va_G} {cl : List vw_C} {A : Nat → Prop} {H0 : Heap} {ex : Nat → Value} {ad0 : List Nat} {tyOf : Nat → FieldType} {cc : ByteArray} {pc cm sm : Nat}
theorem ev_max_ok (hx : p.tables.exec = Jvm.exec) (hb : c.code = cc) (hml : c.maxLocals = nL) {own : String} {index : Nat} (hown : s.vm.findClass own = some m.cls) (hlink : (Cond.methodLink own index Lib.Math.max.name).before args s = true) (hstat : (Cond.static Lib.Math.max.name).before args s = true) (hini : (Cond.initialized "java/lang/Math").before args s = true) (hcode : (Cond.code Lib.Math.max.name Lib.Math.max.code 2 (some .int)).before args s = true)
    (hframes : 1 ≤ R.frames) (hlocals : 64 ≤ R.locals) (hcm : cm ≤ R.cells) (hsm : sm ≤ R.slots) (hd : decode cc pc = .ok (.invokestatic index, 3)) : ev_Sim p l e R s m args below meth c Q nL D cl A s.heap ex ad0 tyOf pc (ev_maxc (pc + 3) cm sm) := by
  intro st pc' st' h g
  obtain ⟨stk, L, hp, c1, n1⟩ := st
  match stk, h with
  | .inl (b1, b2) :: .inl (a1, a2) :: stk, h =>
    have key : ∃ z, a1 = a2 ∧ b1 = b2 ∧ ev_cats stk ≤ 8 ∧ c1 ≤ cm ∧ n1 ≤ sm ∧ pc' = pc + 3 ∧ st' = (.inl (z, z) :: stk, L, hp, (c1, n1)) ∧ ((a1 < b1 ∧ z = b1) ∨ (¬ a1 < b1 ∧ z = a1)) := by
      simp only [ev_maxc, ev_max] at h
      cases q : (decide (a1 = a2) && (decide (b1 = b2) && Nat.ble (ev_cats stk) 8)) with
      | false => rw [q] at h; cases h
      | true =>
        rw [q] at h
        rw [Bool.and_eq_true, Bool.and_eq_true, decide_eq_true_eq, decide_eq_true_eq] at q
        obtain ⟨q1, q2, q3⟩ := q
        have q3 := Nat.le_of_ble_eq_true q3
        cases q4 : decide (a1 < b1) with
        | true =>
          rw [q4] at h
          simp only [cond_true] at h
          obtain ⟨q5, h9⟩ := ev_bt1 h
          rw [Bool.and_eq_true] at q5
          cases h9
          exact ⟨b1, q1, q2, q3, Nat.le_of_ble_eq_true q5.1, Nat.le_of_ble_eq_true q5.2, rfl, rfl, Or.inl ⟨of_decide_eq_true q4, rfl⟩⟩
        | false =>
          rw [q4] at h
          simp only [cond_true, cond_false] at h
          obtain ⟨q5, h9⟩ := ev_bt1 h
          rw [Bool.and_eq_true] at q5
          cases h9
          exact ⟨a1, q1, q2, q3, Nat.le_of_ble_eq_true q5.1, Nat.le_of_ble_eq_true q5.2, rfl, rfl, Or.inr ⟨of_decide_eq_false q4, rfl⟩⟩
    obtain ⟨z, q1, q2, q3, q5, q6, rfl, rfl, q4⟩ := key
    clear h
    intro H locs ls lv sv ws tys hK hP hD hS hh hl hn hL hs
    obtain ⟨w, r1, rfl, ⟨y, rfl, hy1, hy2⟩, w2, r2, rfl, ⟨x, rfl, hx1, hx2⟩, hs⟩ := hs
    have ex1 : x.toInt = a1 := Int.le_antisymm (by rw [q1]; exact hx2) hx1
    have ey1 : y.toInt = b1 := Int.le_antisymm (by rw [q2]; exact hy2) hy1
    refine va_mmax hx hb (by rw [hml]; exact hl.1.symm) hown hlink hstat hini hcode hframes (by rw [ev_cats_ok hs]; omega) (Nat.le_trans q5 hcm) (Nat.le_trans q6 hsm) hd ?_
    refine g H locs ls lv (.int (if x < y then y else x) :: r2) ws tys hK hP hD hS hh hl hn hL ⟨_, _, rfl, ⟨_, rfl, ?_⟩, hs⟩
    rcases q4 with ⟨q7, rfl⟩ | ⟨q7, rfl⟩
    · rw [if_pos (Int32.lt_iff_toInt_lt.mpr (by omega))]
      exact ⟨by omega, by omega⟩
    · rw [if_neg (fun q8 => q7 (by have := Int32.lt_iff_toInt_lt.mp q8; omega))]
      exact ⟨by omega, by omega⟩
end KMax
/-! SHIFTS OF KNOWN INTS. -/
def ev_usx (x y : Int) : Int := Int.bmod ((ev_u x / 2 ^ Nat.land (ev_u y) 31 : Nat) : Int) 4294967296
def ev_isx (x y : Int) : Int := x / ((2 ^ Nat.land (ev_u y) 31 : Nat) : Int)
theorem ev_k31 (y : Int32) : (y.toBitVec &&& 31#32).toNat = Nat.land (ev_u y.toInt) 31 := by
  rw [ev_u_eq, BitVec.toNat_and]
  rfl
theorem ev_k31l (y : Int32) : Nat.land (ev_u y.toInt) 31 ≤ 31 := Nat.and_le_right
theorem ev_usx_eq (x y : Int32) : ((x.toUInt32 >>> (y.toUInt32 &&& Int32.toUInt32 31)).toInt32).toInt = ev_usx x.toInt y.toInt := by
  have hs : ((y.toUInt32 &&& Int32.toUInt32 31).toBitVec % 32).toNat = Nat.land (ev_u y.toInt) 31 := by
    rw [BitVec.toNat_umod, show (y.toUInt32 &&& Int32.toUInt32 31).toBitVec.toNat = (y.toBitVec &&& 31#32).toNat from rfl, ev_k31]
    exact Nat.mod_eq_of_lt (Nat.lt_of_le_of_lt (ev_k31l y) (by decide))
  have h := pk_ushr x y _ hs
  unfold ev_usx
  rw [show ((x.toUInt32 >>> (y.toUInt32 &&& Int32.toUInt32 31)).toInt32).toInt = ((x.toUInt32 >>> (y.toUInt32 &&& Int32.toUInt32 31)).toInt32).toBitVec.toInt from rfl, BitVec.toInt_eq_toNat_bmod, h, ev_u_eq x]
theorem ev_sm32 : ∀ k : Fin 32, ((BitVec.ofNat 32 k.1).smod 32).toNat = k.1 := by decide +kernel
theorem ev_isx_eq (x y : Int32) : (x >>> (y &&& 31)).toInt = ev_isx x.toInt y.toInt := by
  have e : (y &&& 31).toBitVec = BitVec.ofNat 32 (Nat.land (ev_u y.toInt) 31) := by
    apply BitVec.eq_of_toNat_eq
    rw [show (y &&& 31).toBitVec.toNat = (y.toBitVec &&& 31#32).toNat from rfl, ev_k31, BitVec.toNat_ofNat]
    exact (Nat.mod_eq_of_lt (Nat.lt_of_le_of_lt (ev_k31l y) (by decide))).symm
  have hs : ((y &&& 31).toBitVec.smod 32).toNat = Nat.land (ev_u y.toInt) 31 := by
    rw [e]
    exact ev_sm32 ⟨Nat.land (ev_u y.toInt) 31, Nat.lt_succ_of_le (ev_k31l y)⟩
  exact (pk_shr x (y &&& 31) _ hs).trans (Int.shiftRight_eq_div_pow _ _)
section KShx
variable {p : Program} {l : Launch} {e : Env} {R : Room} {s : State} {m : MethodId} {args : Array Value} {below : List Frame} {meth : Method} {c : Code} {Q : State → Prop} {nL : Nat} {D : va_G} {cl : List vw_C} {A : Nat → Prop} {H0 : Heap} {ex : Nat → Value} {ad0 : List Nat} {tyOf : Nat → FieldType} {cc : ByteArray} {pc : Nat}
theorem ev_usx_ok (hx : p.tables.exec = Jvm.exec) (hb : c.code = cc) (hd : decode cc pc = .ok (.iushr, 1)) : ev_Sim p l e R s m args below meth c Q nL D cl A H0 ex ad0 tyOf pc (ev_bin ev_usx (pc + 1)) :=
  ev_bin_gen (op := fun x y => (x.toUInt32 >>> (y.toUInt32 &&& Int32.toUInt32 31)).toInt32) (fun x y => ev_usx_eq x y) (fun _ _ _ _ _ _ _ _ k => lv_iushr hx hb hd rfl k)
theorem ev_isx_ok (hx : p.tables.exec = Jvm.exec) (hb : c.code = cc) (hd : decode cc pc = .ok (.ishr, 1)) : ev_Sim p l e R s m args below meth c Q nL D cl A H0 ex ad0 tyOf pc (ev_bin ev_isx (pc + 1)) :=
  ev_bin_gen (op := fun x y => x >>> (y &&& 31)) (fun x y => ev_isx_eq x y) (fun _ _ _ _ _ _ _ _ k => lv_ishr hx hb hd k)
end KShx
end KV14_max
