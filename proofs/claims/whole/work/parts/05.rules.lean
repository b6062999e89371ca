/-! ===== rules: arithmetic, the stack, branches, stores ===== -/
def mm_ush (x y : Int32) : Int32 := (x.toUInt32 >>> (y.toUInt32 &&& Int32.toUInt32 31)).toInt32
def mm_shl (x y : Int32) : Int32 := x <<< (y &&& 31)
def mm_shr (x y : Int32) : Int32 := x >>> (y &&& 31)
def mm_rem (x y : Int32) : Int32 := x - x / y * y
def mm_lshl (x : Int64) (y : Int32) : Int64 := x <<< (y.toInt64 &&& 63)
def mm_lshr (x : Int64) (y : Int32) : Int64 := x >>> (y.toInt64 &&& 63)
def mm_lush (x : Int64) (y : Int32) : Int64 := (x.toUInt64 >>> (y.toInt64.toUInt64 &&& Int64.toUInt64 63)).toInt64
def mm_b8 (x : Int32) : Int32 := x.toInt8.toInt32
def mm_c16 (x : Int32) : Int32 := (x.toUInt32 % 65536).toInt32
theorem mm_vcat (adr : Nat → Nat) (v : Value) : (mm_v adr v).category = v.category := by cases v <;> rfl
theorem mm_vu {adr : Nat → Nat} {v : Value} (h : v ≠ mm_U) : mm_v adr v ≠ mm_U := by cases v <;> simp_all [mm_v]
section MMR5
variable {G : mm_G} {y : mm_Y} {pc q : Nat} {ls ls' st st' : List Value} {h : mm_H} {o o1 o2 : Option (Option Value × mm_H)}
theorem ok_iadd {a b : Int32} (hd : decode y.2.1 pc = .ok (.iadd, 1)) (hq : pc + 1 = q) (k : mm_Ok G y q ls (.int (a + b) :: st) h o) : mm_Ok G y pc ls (.int b :: .int a :: st) h o := by
  subst hq; exact mm_st (fun p e R s m args below meth c H locs cells slots Q lsA C hx hb L N w k => lv_iadd hx hb hd  k) k
theorem ok_isub {a b : Int32} (hd : decode y.2.1 pc = .ok (.isub, 1)) (hq : pc + 1 = q) (k : mm_Ok G y q ls (.int (a - b) :: st) h o) : mm_Ok G y pc ls (.int b :: .int a :: st) h o := by
  subst hq; exact mm_st (fun p e R s m args below meth c H locs cells slots Q lsA C hx hb L N w k => lv_isub hx hb hd  k) k
theorem ok_imul {a b : Int32} (hd : decode y.2.1 pc = .ok (.imul, 1)) (hq : pc + 1 = q) (k : mm_Ok G y q ls (.int (a * b) :: st) h o) : mm_Ok G y pc ls (.int b :: .int a :: st) h o := by
  subst hq; exact mm_st (fun p e R s m args below meth c H locs cells slots Q lsA C hx hb L N w k => lv_imul hx hb hd  k) k
theorem ok_iand {a b : Int32} (hd : decode y.2.1 pc = .ok (.iand, 1)) (hq : pc + 1 = q) (k : mm_Ok G y q ls (.int (a &&& b) :: st) h o) : mm_Ok G y pc ls (.int b :: .int a :: st) h o := by
  subst hq; exact mm_st (fun p e R s m args below meth c H locs cells slots Q lsA C hx hb L N w k => lv_iand hx hb hd  k) k
theorem ok_ior {a b : Int32} (hd : decode y.2.1 pc = .ok (.ior, 1)) (hq : pc + 1 = q) (k : mm_Ok G y q ls (.int (a ||| b) :: st) h o) : mm_Ok G y pc ls (.int b :: .int a :: st) h o := by
  subst hq; exact mm_st (fun p e R s m args below meth c H locs cells slots Q lsA C hx hb L N w k => lv_ior hx hb hd  k) k
theorem ok_ixor {a b : Int32} (hd : decode y.2.1 pc = .ok (.ixor, 1)) (hq : pc + 1 = q) (k : mm_Ok G y q ls (.int (a ^^^ b) :: st) h o) : mm_Ok G y pc ls (.int b :: .int a :: st) h o := by
  subst hq; exact mm_st (fun p e R s m args below meth c H locs cells slots Q lsA C hx hb L N w k => lv_ixor hx hb hd  k) k
theorem ok_ishl {a b : Int32} (hd : decode y.2.1 pc = .ok (.ishl, 1)) (hq : pc + 1 = q) (k : mm_Ok G y q ls (.int (mm_shl a b) :: st) h o) : mm_Ok G y pc ls (.int b :: .int a :: st) h o := by
  subst hq; exact mm_st (fun p e R s m args below meth c H locs cells slots Q lsA C hx hb L N w k => lv_ishl hx hb hd  k) k
theorem ok_ishr {a b : Int32} (hd : decode y.2.1 pc = .ok (.ishr, 1)) (hq : pc + 1 = q) (k : mm_Ok G y q ls (.int (mm_shr a b) :: st) h o) : mm_Ok G y pc ls (.int b :: .int a :: st) h o := by
  subst hq; exact mm_st (fun p e R s m args below meth c H locs cells slots Q lsA C hx hb L N w k => lv_ishr hx hb hd  k) k
theorem ok_iushr {a b : Int32} (hd : decode y.2.1 pc = .ok (.iushr, 1)) (hq : pc + 1 = q) (k : mm_Ok G y q ls (.int (mm_ush a b) :: st) h o) : mm_Ok G y pc ls (.int b :: .int a :: st) h o := by
  subst hq; exact mm_st (fun p e R s m args below meth c H locs cells slots Q lsA C hx hb L N w k => lv_iushr hx hb hd rfl k) k
theorem ok_idiv {a b : Int32} (hd : decode y.2.1 pc = .ok (.idiv, 1)) (hn : ¬ b = 0) (hq : pc + 1 = q) (k : mm_Ok G y q ls (.int (a / b) :: st) h o) : mm_Ok G y pc ls (.int b :: .int a :: st) h o := by
  subst hq; exact mm_st (fun p e R s m args below meth c H locs cells slots Q lsA C hx hb L N w k => lv_idiv hx hb hd hn k) k
theorem ok_irem {a b : Int32} (hd : decode y.2.1 pc = .ok (.irem, 1)) (hn : ¬ b = 0) (hq : pc + 1 = q) (k : mm_Ok G y q ls (.int (mm_rem a b) :: st) h o) : mm_Ok G y pc ls (.int b :: .int a :: st) h o := by
  subst hq; exact mm_st (fun p e R s m args below meth c H locs cells slots Q lsA C hx hb L N w k => lv_irem hx hb hd hn k) k
theorem ok_ladd {a b : Int64} (hd : decode y.2.1 pc = .ok (.ladd, 1)) (hq : pc + 1 = q) (k : mm_Ok G y q ls (.long (a + b) :: st) h o) : mm_Ok G y pc ls (.long b :: .long a :: st) h o := by
  subst hq; exact mm_st (fun p e R s m args below meth c H locs cells slots Q lsA C hx hb L N w k => lv_ladd hx hb hd  k) k
theorem ok_lmul {a b : Int64} (hd : decode y.2.1 pc = .ok (.lmul, 1)) (hq : pc + 1 = q) (k : mm_Ok G y q ls (.long (a * b) :: st) h o) : mm_Ok G y pc ls (.long b :: .long a :: st) h o := by
  subst hq; exact mm_st (fun p e R s m args below meth c H locs cells slots Q lsA C hx hb L N w k => lv_lmul hx hb hd  k) k
theorem ok_land {a b : Int64} (hd : decode y.2.1 pc = .ok (.land, 1)) (hq : pc + 1 = q) (k : mm_Ok G y q ls (.long (a &&& b) :: st) h o) : mm_Ok G y pc ls (.long b :: .long a :: st) h o := by
  subst hq; exact mm_st (fun p e R s m args below meth c H locs cells slots Q lsA C hx hb L N w k => lv_land hx hb hd  k) k
theorem ok_lor {a b : Int64} (hd : decode y.2.1 pc = .ok (.lor, 1)) (hq : pc + 1 = q) (k : mm_Ok G y q ls (.long (a ||| b) :: st) h o) : mm_Ok G y pc ls (.long b :: .long a :: st) h o := by
  subst hq; exact mm_st (fun p e R s m args below meth c H locs cells slots Q lsA C hx hb L N w k => lv_lor hx hb hd  k) k
theorem ok_lsub {a b : Int64} (hd : decode y.2.1 pc = .ok (.lsub, 1)) (hq : pc + 1 = q) (k : mm_Ok G y q ls (.long (a - b) :: st) h o) : mm_Ok G y pc ls (.long b :: .long a :: st) h o := by
  subst hq; exact mm_st (fun p e R s m args below meth c H locs cells slots Q lsA C hx hb L N w k => lv_lsub hx hb hd  k) k
theorem ok_lshl {a : Int64} {b : Int32} (hd : decode y.2.1 pc = .ok (.lshl, 1)) (hq : pc + 1 = q) (k : mm_Ok G y q ls (.long (mm_lshl a b) :: st) h o) : mm_Ok G y pc ls (.int b :: .long a :: st) h o := by
  subst hq; exact mm_st (fun p e R s m args below meth c H locs cells slots Q lsA C hx hb L N w k => lv_lshl hx hb hd rfl k) k
theorem ok_lshr {a : Int64} {b : Int32} (hd : decode y.2.1 pc = .ok (.lshr, 1)) (hq : pc + 1 = q) (k : mm_Ok G y q ls (.long (mm_lshr a b) :: st) h o) : mm_Ok G y pc ls (.int b :: .long a :: st) h o := by
  subst hq; exact mm_st (fun p e R s m args below meth c H locs cells slots Q lsA C hx hb L N w k => lv_lshr hx hb hd rfl k) k
theorem ok_lushr {a : Int64} {b : Int32} (hd : decode y.2.1 pc = .ok (.lushr, 1)) (hq : pc + 1 = q) (k : mm_Ok G y q ls (.long (mm_lush a b) :: st) h o) : mm_Ok G y pc ls (.int b :: .long a :: st) h o := by
  subst hq; exact mm_st (fun p e R s m args below meth c H locs cells slots Q lsA C hx hb L N w k => lv_lushr hx hb hd rfl k) k
theorem ok_lcmp {a b : Int64} (hd : decode y.2.1 pc = .ok (.lcmp, 1)) (hq : pc + 1 = q) (k : mm_Ok G y q ls (.int (lg_cmp a b) :: st) h o) : mm_Ok G y pc ls (.long b :: .long a :: st) h o := by
  subst hq; exact mm_st (fun p e R s m args below meth c H locs cells slots Q lsA C hx hb L N w k => W.lcmp hx hb hd k) k
theorem ok_i2b {a : Int32} (hd : decode y.2.1 pc = .ok (.i2b, 1)) (hq : pc + 1 = q) (k : mm_Ok G y q ls (.int (mm_b8 a) :: st) h o) : mm_Ok G y pc ls (.int a :: st) h o := by
  subst hq; exact mm_st (fun p e R s m args below meth c H locs cells slots Q lsA C hx hb L N w k => lv_i2b hx hb hd rfl k) k
theorem ok_i2c {a : Int32} (hd : decode y.2.1 pc = .ok (.i2c, 1)) (hq : pc + 1 = q) (k : mm_Ok G y q ls (.int (mm_c16 a) :: st) h o) : mm_Ok G y pc ls (.int a :: st) h o := by
  subst hq; exact mm_st (fun p e R s m args below meth c H locs cells slots Q lsA C hx hb L N w k => lv_i2c hx hb hd rfl k) k
theorem ok_i2l {a : Int32} (hd : decode y.2.1 pc = .ok (.i2l, 1)) (hq : pc + 1 = q) (k : mm_Ok G y q ls (.long (a.toInt64) :: st) h o) : mm_Ok G y pc ls (.int a :: st) h o := by
  subst hq; exact mm_st (fun p e R s m args below meth c H locs cells slots Q lsA C hx hb L N w k => lv_i2l hx hb hd rfl k) k
theorem ok_l2i {a : Int64} (hd : decode y.2.1 pc = .ok (.l2i, 1)) (hq : pc + 1 = q) (k : mm_Ok G y q ls (.int (a.toInt32) :: st) h o) : mm_Ok G y pc ls (.long a :: st) h o := by
  subst hq; exact mm_st (fun p e R s m args below meth c H locs cells slots Q lsA C hx hb L N w k => lv_l2i hx hb hd rfl k) k
theorem ok_dup {a : Value} (hd : decode y.2.1 pc = .ok (.dup, 1)) (ha : a.category = 1) (hq : pc + 1 = q) (k : mm_Ok G y q ls (a :: a :: st) h o) : mm_Ok G y pc ls (a :: st) h o := by
  subst hq; exact mm_st (fun p e R s m args below meth c H locs cells slots Q lsA C hx hb L N w k => lv_dup hx hb hd (by rw [mm_vcat]; exact ha) k) k
theorem ok_dup_x1 {a b : Value} (hd : decode y.2.1 pc = .ok (.dup_x1, 1)) (ha : a.category = 1) (hc : b.category = 1) (hq : pc + 1 = q) (k : mm_Ok G y q ls (a :: b :: a :: st) h o) : mm_Ok G y pc ls (a :: b :: st) h o := by
  subst hq; exact mm_st (fun p e R s m args below meth c H locs cells slots Q lsA C hx hb L N w k => lv_dup_x1 hx hb hd (by rw [mm_vcat]; exact ha) (by rw [mm_vcat]; exact hc) k) k
theorem ok_dup2 {a b : Value} (hd : decode y.2.1 pc = .ok (.dup2, 1)) (ha : a.category = 1) (hc : b.category = 1) (hq : pc + 1 = q) (k : mm_Ok G y q ls (a :: b :: a :: b :: st) h o) : mm_Ok G y pc ls (a :: b :: st) h o := by
  subst hq; exact mm_st (fun p e R s m args below meth c H locs cells slots Q lsA C hx hb L N w k => lv_dup2_11 hx hb hd (by rw [mm_vcat]; exact ha) (by rw [mm_vcat]; exact hc) k) k
theorem ok_dup2_2 {a : Value} (hd : decode y.2.1 pc = .ok (.dup2, 1)) (ha : a.category = 2) (hq : pc + 1 = q) (k : mm_Ok G y q ls (a :: a :: st) h o) : mm_Ok G y pc ls (a :: st) h o := by
  subst hq; exact mm_st (fun p e R s m args below meth c H locs cells slots Q lsA C hx hb L N w k => lv_dup2_2 hx hb hd (by rw [mm_vcat]; exact ha) k) k
theorem ok_pop {a : Value} (hd : decode y.2.1 pc = .ok (.pop, 1)) (ha : a.category = 1) (hq : pc + 1 = q) (k : mm_Ok G y q ls st h o) : mm_Ok G y pc ls (a :: st) h o := by
  subst hq; exact mm_st (fun p e R s m args below meth c H locs cells slots Q lsA C hx hb L N w k => lv_pop hx hb hd (by rw [mm_vcat]; exact ha) k) k
theorem ok_goto {off : Int} (hd : decode y.2.1 pc = .ok (.goto off, 3)) (ht : (pc : Int) + off = (q : Int)) (k : mm_Ok G y q ls st h o) : mm_Ok G y pc ls st h o :=
  mm_st (fun p e R s m args below meth c H locs cells slots Q lsA C hx hb L N w k => lv_goto hx hb hd ht k) k
theorem ok_if_eq {a : Int32} {off : Int} {t : Nat} (hd : decode y.2.1 pc = .ok (.ifCond .eq off, 3)) (ht : (pc : Int) + off = (t : Int)) (hq : pc + 3 = q) (k1 : mm_Ok G y t ls st h o1) (k2 : mm_Ok G y q ls st h o2) : mm_Ok G y pc ls (.int a :: st) h (if a = 0 then o1 else o2) := by
  subst hq; exact mm_br (fun p e R s m args below meth c H locs cells slots Q lsA hx hb k1 k2 => lv_if_eq hx hb hd ht k1 k2) k1 k2
theorem ok_if_ne {a : Int32} {off : Int} {t : Nat} (hd : decode y.2.1 pc = .ok (.ifCond .ne off, 3)) (ht : (pc : Int) + off = (t : Int)) (hq : pc + 3 = q) (k2 : mm_Ok G y t ls st h o2) (k1 : mm_Ok G y q ls st h o1) : mm_Ok G y pc ls (.int a :: st) h (if a = 0 then o1 else o2) := by
  subst hq; exact mm_br (fun p e R s m args below meth c H locs cells slots Q lsA hx hb k1 k2 => lv_if_ne hx hb hd ht k2 k1) k1 k2
theorem ok_if_lt {a : Int32} {off : Int} {t : Nat} (hd : decode y.2.1 pc = .ok (.ifCond .lt off, 3)) (ht : (pc : Int) + off = (t : Int)) (hq : pc + 3 = q) (k1 : mm_Ok G y t ls st h o1) (k2 : mm_Ok G y q ls st h o2) : mm_Ok G y pc ls (.int a :: st) h (if a < 0 then o1 else o2) := by
  subst hq; exact mm_br (fun p e R s m args below meth c H locs cells slots Q lsA hx hb k1 k2 => lv_if_lt hx hb hd ht k1 k2) k1 k2
theorem ok_if_ge {a : Int32} {off : Int} {t : Nat} (hd : decode y.2.1 pc = .ok (.ifCond .ge off, 3)) (ht : (pc : Int) + off = (t : Int)) (hq : pc + 3 = q) (k1 : mm_Ok G y t ls st h o1) (k2 : mm_Ok G y q ls st h o2) : mm_Ok G y pc ls (.int a :: st) h (if 0 ≤ a then o1 else o2) := by
  subst hq; exact mm_br (fun p e R s m args below meth c H locs cells slots Q lsA hx hb k1 k2 => lv_if_ge hx hb hd ht k1 k2) k1 k2
theorem ok_if_gt {a : Int32} {off : Int} {t : Nat} (hd : decode y.2.1 pc = .ok (.ifCond .gt off, 3)) (ht : (pc : Int) + off = (t : Int)) (hq : pc + 3 = q) (k1 : mm_Ok G y t ls st h o1) (k2 : mm_Ok G y q ls st h o2) : mm_Ok G y pc ls (.int a :: st) h (if 0 < a then o1 else o2) := by
  subst hq; exact mm_br (fun p e R s m args below meth c H locs cells slots Q lsA hx hb k1 k2 => lv_if_gt hx hb hd ht k1 k2) k1 k2
theorem ok_if_le {a : Int32} {off : Int} {t : Nat} (hd : decode y.2.1 pc = .ok (.ifCond .le off, 3)) (ht : (pc : Int) + off = (t : Int)) (hq : pc + 3 = q) (k1 : mm_Ok G y t ls st h o1) (k2 : mm_Ok G y q ls st h o2) : mm_Ok G y pc ls (.int a :: st) h (if a ≤ 0 then o1 else o2) := by
  subst hq; exact mm_br (fun p e R s m args below meth c H locs cells slots Q lsA hx hb k1 k2 => lv_if_le hx hb hd ht k1 k2) k1 k2
theorem ok_icmp_eq {a b : Int32} {off : Int} {t : Nat} (hd : decode y.2.1 pc = .ok (.if_icmp .eq off, 3)) (ht : (pc : Int) + off = (t : Int)) (hq : pc + 3 = q) (k1 : mm_Ok G y t ls st h o1) (k2 : mm_Ok G y q ls st h o2) : mm_Ok G y pc ls (.int b :: .int a :: st) h (if a = b then o1 else o2) := by
  subst hq; exact mm_br (fun p e R s m args below meth c H locs cells slots Q lsA hx hb k1 k2 => lv_icmp_eq hx hb hd ht k1 k2) k1 k2
theorem ok_icmp_ne {a b : Int32} {off : Int} {t : Nat} (hd : decode y.2.1 pc = .ok (.if_icmp .ne off, 3)) (ht : (pc : Int) + off = (t : Int)) (hq : pc + 3 = q) (k2 : mm_Ok G y t ls st h o2) (k1 : mm_Ok G y q ls st h o1) : mm_Ok G y pc ls (.int b :: .int a :: st) h (if a = b then o1 else o2) := by
  subst hq; exact mm_br (fun p e R s m args below meth c H locs cells slots Q lsA hx hb k1 k2 => lv_icmp_ne hx hb hd ht k2 k1) k1 k2
theorem ok_icmp_lt {a b : Int32} {off : Int} {t : Nat} (hd : decode y.2.1 pc = .ok (.if_icmp .lt off, 3)) (ht : (pc : Int) + off = (t : Int)) (hq : pc + 3 = q) (k1 : mm_Ok G y t ls st h o1) (k2 : mm_Ok G y q ls st h o2) : mm_Ok G y pc ls (.int b :: .int a :: st) h (if a < b then o1 else o2) := by
  subst hq; exact mm_br (fun p e R s m args below meth c H locs cells slots Q lsA hx hb k1 k2 => lv_icmp_lt hx hb hd ht k1 k2) k1 k2
theorem ok_icmp_ge {a b : Int32} {off : Int} {t : Nat} (hd : decode y.2.1 pc = .ok (.if_icmp .ge off, 3)) (ht : (pc : Int) + off = (t : Int)) (hq : pc + 3 = q) (k1 : mm_Ok G y t ls st h o1) (k2 : mm_Ok G y q ls st h o2) : mm_Ok G y pc ls (.int b :: .int a :: st) h (if b ≤ a then o1 else o2) := by
  subst hq; exact mm_br (fun p e R s m args below meth c H locs cells slots Q lsA hx hb k1 k2 => lv_icmp_ge hx hb hd ht k1 k2) k1 k2
theorem ok_icmp_gt {a b : Int32} {off : Int} {t : Nat} (hd : decode y.2.1 pc = .ok (.if_icmp .gt off, 3)) (ht : (pc : Int) + off = (t : Int)) (hq : pc + 3 = q) (k1 : mm_Ok G y t ls st h o1) (k2 : mm_Ok G y q ls st h o2) : mm_Ok G y pc ls (.int b :: .int a :: st) h (if b < a then o1 else o2) := by
  subst hq; exact mm_br (fun p e R s m args below meth c H locs cells slots Q lsA hx hb k1 k2 => lv_icmp_gt hx hb hd ht k1 k2) k1 k2
theorem ok_icmp_le {a b : Int32} {off : Int} {t : Nat} (hd : decode y.2.1 pc = .ok (.if_icmp .le off, 3)) (ht : (pc : Int) + off = (t : Int)) (hq : pc + 3 = q) (k1 : mm_Ok G y t ls st h o1) (k2 : mm_Ok G y q ls st h o2) : mm_Ok G y pc ls (.int b :: .int a :: st) h (if a ≤ b then o1 else o2) := by
  subst hq; exact mm_br (fun p e R s m args below meth c H locs cells slots Q lsA hx hb k1 k2 => lv_icmp_le hx hb hd ht k1 k2) k1 k2
theorem ok_ifnull_s {a : Nat} {off : Int} (hd : decode y.2.1 pc = .ok (.ifnull off, 3)) (hq : pc + 3 = q) (k : mm_Ok G y q ls st h o) : mm_Ok G y pc ls (.ref a :: st) h o := by
  subst hq; exact mm_st (fun p e R s m args below meth c H locs cells slots Q lsA C hx hb L N w k => lv_ifnull hx hb hd k) k
theorem ok_ifnull_n {off : Int} (hd : decode y.2.1 pc = .ok (.ifnull off, 3)) (ht : (pc : Int) + off = (q : Int)) (k : mm_Ok G y q ls st h o) : mm_Ok G y pc ls (.null :: st) h o :=
  mm_st (fun p e R s m args below meth c H locs cells slots Q lsA C hx hb L N w k => lv_ifnullN hx hb hd ht k) k
theorem ok_ifnonnull_s {a : Nat} {off : Int} (hd : decode y.2.1 pc = .ok (.ifnonnull off, 3)) (ht : (pc : Int) + off = (q : Int)) (k : mm_Ok G y q ls st h o) : mm_Ok G y pc ls (.ref a :: st) h o :=
  mm_st (fun p e R s m args below meth c H locs cells slots Q lsA C hx hb L N w k => lv_ifnonnull hx hb hd ht k) k
theorem ok_ifnonnull_n {off : Int} (hd : decode y.2.1 pc = .ok (.ifnonnull off, 3)) (hq : pc + 3 = q) (k : mm_Ok G y q ls st h o) : mm_Ok G y pc ls (.null :: st) h o := by
  subst hq; exact mm_st (fun p e R s m args below meth c H locs cells slots Q lsA C hx hb L N w k => lv_ifnonnullN hx hb hd k) k
/-- a switch: the place that the number leads to -/
theorem ok_lookup {dflt : Int} {ps : Array (Int × Int)} {len : Nat} {x : Int32} (hd : decode y.2.1 pc = .ok (.lookupswitch dflt ps, len)) (hp : (ps.toList.zip (ps.toList.drop 1)).all (fun (a, next) => a.1 < next.1) = true) (ho : (pc : Int) + Op.lookupswitch.offset ps.toList dflt x.toInt = (q : Int)) (k : mm_Ok G y q ls st h o) : mm_Ok G y pc ls (.int x :: st) h o :=
  mm_st (fun p e R s m args below meth c H locs cells slots Q lsA C hx hb L N w k => lv_lookup hx hb hd hp rfl ho k) k
theorem ok_tableOut {dflt lo hi : Int} {offs : Array Int} {len : Nat} {x : Int32} (hd : decode y.2.1 pc = .ok (.tableswitch dflt lo hi offs, len)) (hh : x.toInt < lo ∨ hi < x.toInt) (ht : (pc : Int) + dflt = (q : Int)) (k : mm_Ok G y q ls st h o) : mm_Ok G y pc ls (.int x :: st) h o :=
  mm_st (fun p e R s m args below meth c H locs cells slots Q lsA C hx hb L N w k => lv_tableOut hx hb hd hh ht k) k
theorem ok_tableIn {dflt lo hi : Int} {offs : Array Int} {len : Nat} {x : Int32} {off : Int} (hd : decode y.2.1 pc = .ok (.tableswitch dflt lo hi offs, len)) (h1 : ¬ x.toInt < lo) (h2 : ¬ hi < x.toInt) (ho : offs[(x.toInt - lo).toNat]? = some off) (ht : (pc : Int) + off = (q : Int)) (k : mm_Ok G y q ls st h o) : mm_Ok G y pc ls (.int x :: st) h o :=
  mm_st (fun p e R s m args below meth c H locs cells slots Q lsA C hx hb L N w k => lv_tableIn hx hb hd h1 h2 ho ht k) k
end MMR5
/-! locals -/
def mm_kill (ls : List Value) (i : Nat) : List Value := match i with
  | 0 => ls
  | j + 1 => if (ls.getD j mm_U).category = 2 then ls.set j mm_U else ls
def mm_s1 (ls : List Value) (i : Nat) (v : Value) : List Value := (mm_kill ls i).set i v
def mm_s2 (ls : List Value) (i : Nat) (v : Value) : List Value := ((mm_kill ls i).set (i + 1) mm_U).set i v
def mm_as (G : mm_G) (ls : List Value) : List (Nat × Value) := (List.range ls.length).filterMap (fun i => if ls.getD i mm_U = mm_U then none else some (i, mm_v G.2.1 (ls.getD i mm_U)))
theorem mm_as_in {G : mm_G} {ls : List Value} {i : Nat} {v : Value} (h : ls[i]? = some v) (hu : v ≠ mm_U) : (i, mm_v G.2.1 v) ∈ mm_as G ls := by
  have hl := (List.getElem?_eq_some_iff.mp h).1
  refine List.mem_filterMap.mpr ⟨i, List.mem_range.mpr hl, ?_⟩
  have e : ls.getD i mm_U = v := by simp [List.getD_eq_getElem?_getD, h]
  rw [e, if_neg hu]
theorem mm_Loc.has {G : mm_G} {y : mm_Y} {ls : List Value} {lsA : Array Slot} (L : mm_Loc G y ls lsA) : lv_has lsA y.2.2.1 (mm_as G ls) := by
  refine ⟨L.1.1, L.1.2.1, fun q hq => ?_⟩
  obtain ⟨i, hi, he⟩ := List.mem_filterMap.mp hq
  have hl := List.mem_range.mp hi
  by_cases hu : ls.getD i mm_U = mm_U
  · rw [if_pos hu] at he; cases he
  · rw [if_neg hu] at he
    cases he
    have e : ls[i]? = some (ls.getD i mm_U) := by simp [List.getD_eq_getElem?_getD, hl]
    exact L.2 i _ e hu
theorem mm_kill_get {ls : List Value} {i j : Nat} {v : Value} (h : (mm_kill ls i)[j]? = some v) (hu : v ≠ mm_U) : ls[j]? = some v ∧ ¬ (j + 1 = i ∧ v.category = 2) := by
  cases i with
  | zero => exact ⟨h, by omega⟩
  | succ n =>
    change (if (ls.getD n mm_U).category = 2 then ls.set n mm_U else ls)[j]? = some v at h
    by_cases hc : (ls.getD n mm_U).category = 2
    · rw [if_pos hc] at h
      by_cases hj : n = j
      · subst hj
        rw [List.getElem?_set] at h
        simp at h
        exact absurd h.2.symm hu
      · rw [List.getElem?_set_ne hj] at h
        exact ⟨h, by omega⟩
    · rw [if_neg hc] at h
      refine ⟨h, fun z => ?_⟩
      have e : j = n := by omega
      subst e
      have e2 : ls.getD j mm_U = v := by simp [List.getD_eq_getElem?_getD, h]
      exact hc (by rw [e2]; exact z.2)
theorem mm_s1_loc {G : mm_G} {y : mm_Y} {ls : List Value} {lsA : Array Slot} {i : Nat} {v : Value} (L : lv_has lsA y.2.2.1 ((i, mm_v G.2.1 v) :: (mm_as G ls).filter (fun q => !(q.1 == i) && !(q.1 + 1 == i && q.2.category == 2)))) : mm_Loc G y (mm_s1 ls i v) lsA := by
  refine ⟨⟨L.1, L.2.1, fun q hq => by cases hq⟩, fun j w hj hu => ?_⟩
  unfold mm_s1 at hj
  by_cases e : i = j
  · subst e
    rw [List.getElem?_set] at hj
    simp at hj
    rw [← hj.2]
    exact L.2.2 (i, mm_v G.2.1 v) List.mem_cons_self
  · rw [List.getElem?_set_ne e] at hj
    obtain ⟨h1, h2⟩ := mm_kill_get hj hu
    refine L.2.2 (j, mm_v G.2.1 w) (List.mem_cons_of_mem _ (List.mem_filter.mpr ⟨mm_as_in h1 hu, ?_⟩))
    simp [mm_vcat]
    exact ⟨fun z => e z.symm, Decidable.not_and_iff_or_not.mp h2⟩
theorem mm_s2_loc {G : mm_G} {y : mm_Y} {ls : List Value} {lsA : Array Slot} {i : Nat} {v : Value} (L : lv_has lsA y.2.2.1 ((i, mm_v G.2.1 v) :: (mm_as G ls).filter (fun q => !(q.1 == i) && (!(q.1 == i + 1) && !(q.1 + 1 == i && q.2.category == 2))))) : mm_Loc G y (mm_s2 ls i v) lsA := by
  refine ⟨⟨L.1, L.2.1, fun q hq => by cases hq⟩, fun j w hj hu => ?_⟩
  unfold mm_s2 at hj
  by_cases e : i = j
  · subst e
    rw [List.getElem?_set] at hj
    simp at hj
    rw [← hj.2]
    exact L.2.2 (i, mm_v G.2.1 v) List.mem_cons_self
  · rw [List.getElem?_set_ne e] at hj
    by_cases e2 : i + 1 = j
    · subst e2
      rw [List.getElem?_set] at hj
      simp at hj
      exact absurd hj.2.symm hu
    · rw [List.getElem?_set_ne e2] at hj
      obtain ⟨h1, h2⟩ := mm_kill_get hj hu
      refine L.2.2 (j, mm_v G.2.1 w) (List.mem_cons_of_mem _ (List.mem_filter.mpr ⟨mm_as_in h1 hu, ?_⟩))
      simp [mm_vcat]
      exact ⟨fun z => e z.symm, fun z => e2 z.symm, Decidable.not_and_iff_or_not.mp h2⟩
section MMR6
variable {G : mm_G} {y : mm_Y} {pc q : Nat} {ls ls' st st' : List Value} {h : mm_H} {o o1 o2 : Option (Option Value × mm_H)}
/-- a step that changes the locals alone -/
theorem mm_lo (f : ∀ (p : Program) (e : Env) (R : Room) (s : State) (m : MethodId) (args : Array Value) (below : List Frame) (meth : Method) (c : Code) (H : Heap) (locs : List Loc) (cells slots : Nat) (Q : State → Prop) (lsA : Array Slot), p.tables.exec = Jvm.exec → c.code = y.2.1 → mm_Loc G y ls lsA →
      (∀ lsB, mm_Loc G y ls' lsB → W p G.1 e R s m args below meth c H locs cells slots Q (F0 m q lsB (st'.map (mm_v G.2.1)))) → W p G.1 e R s m args below meth c H locs cells slots Q (F0 m pc lsA (st.map (mm_v G.2.1))))
    (k : mm_Ok G y q ls' st' h o) : mm_Ok G y pc ls st h o := by
  intro w r h' ho
  obtain ⟨k1, k3⟩ := k w r h' ho
  refine ⟨k1, fun p e R s m args below meth c C H locs cells slots Q lsA N L hc hs he => ?_⟩
  exact f p e R s m args below meth c H locs cells slots Q lsA C.1.1 C.1.2.1 L (fun lsB LB => k3 p e R s m args below meth c C H locs cells slots Q lsB N LB hc hs he)
theorem ok_istore {i : Nat} {x : Int32} (hd : decode y.2.1 pc = .ok (.istore i, 2)) (hn : i < y.2.2.1) (hs : mm_s1 ls i (.int x) = ls') (hq : pc + 2 = q) (k : mm_Ok G y q ls' st h o) : mm_Ok G y pc ls (.int x :: st) h o := by
  subst hq; subst hs; exact mm_lo (fun p e R s m args below meth c H locs cells slots Q lsA hx hb L kk => lv_istore hx hb hd L.has hn rfl (fun lsB LB => kk lsB (mm_s1_loc (v := .int x) LB))) k
theorem ok_istore_n {i : Fin 4} {x : Int32} (hd : decode y.2.1 pc = .ok (.istore_n i, 1)) (hn : (i : Nat) < y.2.2.1) (hs : mm_s1 ls i (.int x) = ls') (hq : pc + 1 = q) (k : mm_Ok G y q ls' st h o) : mm_Ok G y pc ls (.int x :: st) h o := by
  subst hq; subst hs; exact mm_lo (fun p e R s m args below meth c H locs cells slots Q lsA hx hb L kk => lv_istore_n hx hb hd rfl L.has hn rfl (fun lsB LB => kk lsB (mm_s1_loc (v := .int x) LB))) k
theorem ok_lstore {i : Nat} {x : Int64} (hd : decode y.2.1 pc = .ok (.lstore i, 2)) (hn : i + 1 < y.2.2.1) (hs : mm_s2 ls i (.long x) = ls') (hq : pc + 2 = q) (k : mm_Ok G y q ls' st h o) : mm_Ok G y pc ls (.long x :: st) h o := by
  subst hq; subst hs; exact mm_lo (fun p e R s m args below meth c H locs cells slots Q lsA hx hb L kk => lv_lstore hx hb hd L.has hn rfl (fun lsB LB => kk lsB (mm_s2_loc (v := .long x) LB))) k
theorem ok_lstore_n {i : Fin 4} {x : Int64} (hd : decode y.2.1 pc = .ok (.lstore_n i, 1)) (hn : (i : Nat) + 1 < y.2.2.1) (hs : mm_s2 ls i (.long x) = ls') (hq : pc + 1 = q) (k : mm_Ok G y q ls' st h o) : mm_Ok G y pc ls (.long x :: st) h o := by
  subst hq; subst hs; exact mm_lo (fun p e R s m args below meth c H locs cells slots Q lsA hx hb L kk => lv_lstore_n hx hb hd rfl L.has hn rfl (fun lsB LB => kk lsB (mm_s2_loc (v := .long x) LB))) k
theorem ok_astore {i : Nat} {x : Nat} (hd : decode y.2.1 pc = .ok (.astore i, 2)) (hn : i < y.2.2.1) (hs : mm_s1 ls i (.ref x) = ls') (hq : pc + 2 = q) (k : mm_Ok G y q ls' st h o) : mm_Ok G y pc ls (.ref x :: st) h o := by
  subst hq; subst hs; exact mm_lo (fun p e R s m args below meth c H locs cells slots Q lsA hx hb L kk => lv_astore hx hb hd L.has hn rfl (fun lsB LB => kk lsB (mm_s1_loc (v := .ref x) LB))) k
theorem ok_astore_n {i : Fin 4} {x : Nat} (hd : decode y.2.1 pc = .ok (.astore_n i, 1)) (hn : (i : Nat) < y.2.2.1) (hs : mm_s1 ls i (.ref x) = ls') (hq : pc + 1 = q) (k : mm_Ok G y q ls' st h o) : mm_Ok G y pc ls (.ref x :: st) h o := by
  subst hq; subst hs; exact mm_lo (fun p e R s m args below meth c H locs cells slots Q lsA hx hb L kk => lv_astore_n hx hb hd rfl L.has hn rfl (fun lsB LB => kk lsB (mm_s1_loc (v := .ref x) LB))) k
theorem ok_iinc {i : Nat} {n : Int} {x v : Int32} (hd : decode y.2.1 pc = .ok (.iinc i n, 3)) (hl : ls[i]? = some (.int x)) (hv : x + Int32.ofInt n = v) (hn : i < y.2.2.1) (hs : mm_s1 ls i (.int v) = ls') (hq : pc + 3 = q) (k : mm_Ok G y q ls' st h o) : mm_Ok G y pc ls st h o := by
  subst hq; subst hs
  refine mm_lo (fun p e R s m args below meth c H locs cells slots Q lsA hx hb L kk => ?_) k
  obtain ⟨j, hj⟩ := List.getElem?_of_mem (mm_as_in (G := G) hl (by intro z; cases z))
  exact lv_iinc hx hb hd L.has hj hv hn rfl (fun lsB LB => kk lsB (mm_s1_loc (v := .int v) LB))
theorem ok_astoreN {i : Nat} (hd : decode y.2.1 pc = .ok (.astore i, 2)) (hn : i < y.2.2.1) (hs : mm_s1 ls i .null = ls') (hq : pc + 2 = q) (k : mm_Ok G y q ls' st h o) : mm_Ok G y pc ls (.null :: st) h o := by
  subst hq; subst hs; exact mm_lo (fun p e R s m args below meth c H locs cells slots Q lsA hx hb L kk => lv_astoreN hx hb hd L.has hn rfl (fun lsB LB => kk lsB (mm_s1_loc (v := .null) LB))) k
theorem ok_astore_nN {i : Fin 4} (hd : decode y.2.1 pc = .ok (.astore_n i, 1)) (hn : (i : Nat) < y.2.2.1) (hs : mm_s1 ls i .null = ls') (hq : pc + 1 = q) (k : mm_Ok G y q ls' st h o) : mm_Ok G y pc ls (.null :: st) h o := by
  subst hq; subst hs; exact mm_lo (fun p e R s m args below meth c H locs cells slots Q lsA hx hb L kk => lv_astore_nN hx hb hd rfl L.has hn rfl (fun lsB LB => kk lsB (mm_s1_loc (v := .null) LB))) k
end MMR6
