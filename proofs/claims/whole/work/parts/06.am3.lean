def am_i (z : Int) : Int32 := Int32.ofInt z
abbrev am_n (z : Int) : Value := .int (am_i z)
theorem am_i_add (a b : Int) : am_i a + am_i b = am_i (a + b) := (Int32.ofInt_add a b).symm
theorem am_i_sub (a b : Int) : am_i a - am_i b = am_i (a - b) := (Int32.ofInt_sub a b).symm
theorem am_i_mul (a b : Int) : am_i a * am_i b = am_i (a * b) := (Int32.ofInt_mul a b).symm
theorem am_i_neg (a : Int) : - am_i a = am_i (-a) := (Int32.ofInt_neg a).symm
theorem am_i_t {a : Int} (h1 : -2147483648 ≤ a) (h2 : a < 2147483648) : (am_i a).toInt = a := Int32.toInt_ofInt_of_le h1 h2
theorem am_i_of (x : Int32) : x = am_i x.toInt := (Int32.ofInt_toInt x).symm
theorem am_i_eq {a b : Int} (h1 : -2147483648 ≤ a) (h2 : a < 2147483648) (h3 : -2147483648 ≤ b) (h4 : b < 2147483648) : am_i a = am_i b ↔ a = b :=
  ⟨fun e => by rw [← am_i_t h1 h2, ← am_i_t h3 h4, e], fun e => by rw [e]⟩
theorem am_i_lt {a b : Int} (h1 : -2147483648 ≤ a) (h2 : a < 2147483648) (h3 : -2147483648 ≤ b) (h4 : b < 2147483648) : am_i a < am_i b ↔ a < b := by
  rw [Int32.lt_iff_toInt_lt, am_i_t h1 h2, am_i_t h3 h4]
theorem am_i_le {a b : Int} (h1 : -2147483648 ≤ a) (h2 : a < 2147483648) (h3 : -2147483648 ≤ b) (h4 : b < 2147483648) : am_i a ≤ am_i b ↔ a ≤ b := by
  rw [Int32.le_iff_toInt_le, am_i_t h1 h2, am_i_t h3 h4]
theorem am_i_cl {a : Int} (h1 : 0 ≤ a) (h2 : a < 2147483648) : (am_i a).toNatClampNeg = a.toNat := Int32.toNatClampNeg_ofInt_of_le (by omega) h2
theorem am_i_nI (n : Nat) : am_i n = nI n := Int32.ofInt_eq_ofNat
theorem am_i_N {a : Int} (h1 : 0 ≤ a) : am_i a = nI a.toNat := by
  rw [← am_i_nI, Int.toNat_of_nonneg h1]
theorem am_i_in {a : Int} {n : Nat} (h1 : 0 ≤ a) (h2 : a < n) (h3 : n < 2147483648) : vp_in (am_i a) n := by
  rw [am_i_N h1]
  exact vp_in_nI (by omega) (by omega)
theorem am_i_div {a d : Int} (h1 : 0 ≤ a) (h2 : a < 2147483648) (h3 : 0 < d) (h4 : d < 2147483648) : am_i a / am_i d = am_i (a / d) := by
  rw [am_i_N h1, am_i_N (Int.le_of_lt h3), pk_div (by omega) (by omega) (by omega), ← am_i_nI]
  congr 1
  rw [Int.natCast_ediv, Int.toNat_of_nonneg h1, Int.toNat_of_nonneg (Int.le_of_lt h3)]
theorem am_i_rem {a d : Int} (h1 : 0 ≤ a) (h2 : a < 2147483648) (h3 : 0 < d) (h4 : d < 2147483648) : am_i a - am_i a / am_i d * am_i d = am_i (a % d) := by
  rw [am_i_div h1 h2 h3 h4, am_i_mul, am_i_sub]
  congr 1
  have := Int.mul_ediv_add_emod a d
  rw [Int.mul_comm (a / d) d]
  omega
theorem am_i_c {a : Int} (h1 : 0 ≤ a) (h2 : a < 65536) : ((am_i a).toUInt32 % 65536).toInt32 = am_i a := by
  rw [am_i_N h1, pk_char, pk_tn (by omega), Nat.mod_eq_of_lt (by omega)]
theorem am_i_nar {a : Int} (h1 : 0 ≤ a) (h2 : a < 65536) : narrow .char (.int (am_i a)) = .int (am_i a) := by
  rw [am_i_N h1]
  exact (pk_charN (by omega)).1
theorem am_i_vp {a : Int} (h1 : 0 ≤ a) (h2 : a < 65536) : vp_nar .char (am_i a) = am_i a := by
  unfold vp_nar
  rw [am_i_nar h1 h2]
/-- arrays of numbers, by whole numbers; a place is written -/
def am_ia (t n : Nat) (g : Int → Int) : va_E := .inl (t, n, .inl (fun j => am_i (g j)))
def am_up (g : Int → Int) (k x : Int) : Int → Int := fun j => if j = k then x else g j
theorem am_up_eq (g : Int → Int) (k x : Int) : am_up g k x k = x := if_pos rfl
theorem am_up_ne (g : Int → Int) {k j : Int} (x : Int) (h : j ≠ k) : am_up g k x j = g j := if_neg h
theorem am_ia_up {t n : Nat} {g : Int → Int} {i x : Int} (h1 : 0 ≤ i) (h2 : i < 2147483648) : (.inl (t, n, .inl (upd (fun j => am_i (g j)) (am_i i).toNatClampNeg (am_i x))) : va_E) = am_ia t n (am_up g i x) := by
  unfold am_ia
  congr 3
  congr 1
  funext j
  rw [am_i_cl h1 h2]
  unfold upd am_up
  by_cases hj : j = i.toNat
  · rw [if_pos hj, if_pos (by omega)]
  · rw [if_neg hj, if_neg (by omega)]
/-- arrays of longs -/
def am_ja (t n : Nat) (g : Int → Int64) : va_E := .inl (t, n, .inr (.inl (fun j => g j)))
def am_upj (g : Int → Int64) (k : Int) (x : Int64) : Int → Int64 := fun j => if j = k then x else g j
theorem am_ja_up {t n : Nat} {g : Int → Int64} {i : Int} {x : Int64} (h1 : 0 ≤ i) (h2 : i < 2147483648) : (.inl (t, n, .inr (.inl (vp_updL (fun j => g j) (am_i i).toNatClampNeg x))) : va_E) = am_ja t n (am_upj g i x) := by
  unfold am_ja
  congr 4
  congr 1
  funext j
  rw [am_i_cl h1 h2]
  unfold vp_updL am_upj
  by_cases hj : j = i.toNat
  · rw [if_pos hj, if_pos (by omega)]
  · rw [if_neg hj, if_neg (by omega)]
/-- arrays of objects: the place of each -/
def am_qa (t n : Nat) (g : Int → Option Nat) : va_E := .inl (t, n, .inr (.inr (.inr (.inr (fun j => g j)))))
/-- cells that are read behind a write -/
theorem am_rs {h : am_H} {k : Nat} {e e0 : va_E} (r : h[k]? = some e0) : (h.set k e)[k]? = some e := List.getElem?_set_self (am_lt r)
theorem am_rn {h : am_H} {k j : Nat} {e : va_E} {x : Option va_E} (n : k ≠ j) (r : h[j]? = x) : (h.set k e)[j]? = x := by
  rw [List.getElem?_set_ne n]
  exact r
theorem am_ne {h : am_H} {k j : Nat} {e1 e2 : va_E} (r1 : h[k]? = some e1) (r2 : h[j]? = some e2) (n : e1 ≠ e2) : k ≠ j := fun q => n (by
  subst q
  exact Option.some.inj (r1.symm.trans r2))
section AmInt
variable {X : am_C} {own : String} {cc : ByteArray} {pc : Nat} {L st : List Value} {h : am_H} {cs sl : Nat}
theorem ai_const (hB : am_B X own cc) {n : Int} (hdg : decode cc pc = .ok (.iconst n, 1)) (k : am_Z X (pc + 1) L (am_n n :: st) h cs sl) : am_Z X pc L (st) h cs sl := am_iconst hB hdg rfl k
theorem ai_bipush (hB : am_B X own cc) {n : Int} (hdg : decode cc pc = .ok (.bipush n, 2)) (hv : (Int8.ofInt n).toInt32 = am_i n) (k : am_Z X (pc + 2) L (am_n n :: st) h cs sl) : am_Z X pc L (st) h cs sl := am_bipush hB hdg hv k
theorem ai_sipush (hB : am_B X own cc) {n : Int} (hdg : decode cc pc = .ok (.sipush n, 3)) (hv : (Int16.ofInt n).toInt32 = am_i n) (k : am_Z X (pc + 3) L (am_n n :: st) h cs sl) : am_Z X pc L (st) h cs sl := am_sipush hB hdg hv k
theorem ai_add (hB : am_B X own cc) {a b : Int} (hdg : decode cc pc = .ok (.iadd, 1)) (k : am_Z X (pc + 1) L (am_n (a + b) :: st) h cs sl) : am_Z X pc L (am_n b :: am_n a :: st) h cs sl := am_iadd hB hdg (by rw [am_i_add]; exact k)
theorem ai_sub (hB : am_B X own cc) {a b : Int} (hdg : decode cc pc = .ok (.isub, 1)) (k : am_Z X (pc + 1) L (am_n (a - b) :: st) h cs sl) : am_Z X pc L (am_n b :: am_n a :: st) h cs sl := am_isub hB hdg (by rw [am_i_sub]; exact k)
theorem ai_mul (hB : am_B X own cc) {a b : Int} (hdg : decode cc pc = .ok (.imul, 1)) (k : am_Z X (pc + 1) L (am_n (a * b) :: st) h cs sl) : am_Z X pc L (am_n b :: am_n a :: st) h cs sl := am_imul hB hdg (by rw [am_i_mul]; exact k)
theorem ai_neg (hB : am_B X own cc) {a : Int} (hdg : decode cc pc = .ok (.ineg, 1)) (k : am_Z X (pc + 1) L (am_n (-a) :: st) h cs sl) : am_Z X pc L (am_n a :: st) h cs sl := am_ineg hB hdg (by rw [am_i_neg]; exact k)
theorem ai_div (hB : am_B X own cc) {a b : Int} (hdg : decode cc pc = .ok (.idiv, 1)) (k : am_Z X (pc + 1) L (am_n (a / b) :: st) h cs sl) (h1 : 0 ≤ a := by omega) (h2 : a < 2147483648 := by omega) (h3 : 0 < b := by omega) (h4 : b < 2147483648 := by omega) : am_Z X pc L (am_n b :: am_n a :: st) h cs sl := am_idiv hB hdg (fun z => by have := (am_i_eq (by omega) h4 (by omega) (by omega)).mp (show am_i b = am_i 0 from z); omega) (by rw [am_i_div h1 h2 h3 h4]; exact k)
theorem ai_rem (hB : am_B X own cc) {a b : Int} (hdg : decode cc pc = .ok (.irem, 1)) (k : am_Z X (pc + 1) L (am_n (a % b) :: st) h cs sl) (h1 : 0 ≤ a := by omega) (h2 : a < 2147483648 := by omega) (h3 : 0 < b := by omega) (h4 : b < 2147483648 := by omega) : am_Z X pc L (am_n b :: am_n a :: st) h cs sl := am_irem hB hdg (fun z => by have := (am_i_eq (by omega) h4 (by omega) (by omega)).mp (show am_i b = am_i 0 from z); omega) (by rw [am_i_rem h1 h2 h3 h4]; exact k)
theorem ai_i2c (hB : am_B X own cc) {a : Int} (hdg : decode cc pc = .ok (.i2c, 1)) (k : am_Z X (pc + 1) L (am_n a :: st) h cs sl) (h1 : 0 ≤ a := by omega) (h2 : a < 65536 := by omega) : am_Z X pc L (am_n a :: st) h cs sl := am_i2c hB hdg (by rw [am_i_c h1 h2]; exact k)
theorem ai_inc (hB : am_B X own cc) {i : Nat} {n a : Int} {L' : List Value} (hdg : decode cc pc = .ok (.iinc i n, 3)) (hl : L[i]? = some (am_n a)) (hn : i < X.2.2.2.2.2.2.2.2.2.2.2.2.2) (hL : am_st L i (am_n (a + n)) = L') (k : am_Z X (pc + 3) L' st h cs sl) : am_Z X pc L st h cs sl := am_iinc hB hdg hl (am_i_add a n) hn hL k
theorem ai_jeq (hB : am_B X own cc) {a b off : Int} {tgt : Nat} (hdg : decode cc pc = .ok (.if_icmp .eq off, 3)) (ht : (pc : Int) + off = (tgt : Int)) (kt : a = b → am_Z X tgt L st h cs sl) (kf : a ≠ b → am_Z X (pc + 3) L st h cs sl) (h1 : -2147483648 ≤ a := by omega) (h2 : a < 2147483648 := by omega) (h3 : -2147483648 ≤ b := by omega) (h4 : b < 2147483648 := by omega) : am_Z X pc L (am_n b :: am_n a :: st) h cs sl := am_icmp_eq hB hdg ht (fun z => kt ((am_i_eq h1 h2 h3 h4).mp z)) (fun z => kf (fun q => z ((am_i_eq h1 h2 h3 h4).mpr q)))
theorem ai_zeq (hB : am_B X own cc) {a off : Int} {tgt : Nat} (hdg : decode cc pc = .ok (.ifCond .eq off, 3)) (ht : (pc : Int) + off = (tgt : Int)) (kt : a = 0 → am_Z X tgt L st h cs sl) (kf : a ≠ 0 → am_Z X (pc + 3) L st h cs sl) (h1 : -2147483648 ≤ a := by omega) (h2 : a < 2147483648 := by omega) : am_Z X pc L (am_n a :: st) h cs sl := by
  have h3 : (-2147483648 : Int) ≤ 0 := by omega
  have h4 : (0 : Int) < 2147483648 := by omega
  exact am_if_eq hB hdg ht (fun z => kt ((am_i_eq h1 h2 h3 h4).mp z)) (fun z => kf (fun q => z ((am_i_eq h1 h2 h3 h4).mpr q)))
theorem ai_jne (hB : am_B X own cc) {a b off : Int} {tgt : Nat} (hdg : decode cc pc = .ok (.if_icmp .ne off, 3)) (ht : (pc : Int) + off = (tgt : Int)) (kt : a ≠ b → am_Z X tgt L st h cs sl) (kf : a = b → am_Z X (pc + 3) L st h cs sl) (h1 : -2147483648 ≤ a := by omega) (h2 : a < 2147483648 := by omega) (h3 : -2147483648 ≤ b := by omega) (h4 : b < 2147483648 := by omega) : am_Z X pc L (am_n b :: am_n a :: st) h cs sl := am_icmp_ne hB hdg ht (fun z => kt (fun q => z ((am_i_eq h1 h2 h3 h4).mpr q))) (fun z => kf ((am_i_eq h1 h2 h3 h4).mp z))
theorem ai_zne (hB : am_B X own cc) {a off : Int} {tgt : Nat} (hdg : decode cc pc = .ok (.ifCond .ne off, 3)) (ht : (pc : Int) + off = (tgt : Int)) (kt : a ≠ 0 → am_Z X tgt L st h cs sl) (kf : a = 0 → am_Z X (pc + 3) L st h cs sl) (h1 : -2147483648 ≤ a := by omega) (h2 : a < 2147483648 := by omega) : am_Z X pc L (am_n a :: st) h cs sl := by
  have h3 : (-2147483648 : Int) ≤ 0 := by omega
  have h4 : (0 : Int) < 2147483648 := by omega
  exact am_if_ne hB hdg ht (fun z => kt (fun q => z ((am_i_eq h1 h2 h3 h4).mpr q))) (fun z => kf ((am_i_eq h1 h2 h3 h4).mp z))
theorem ai_jlt (hB : am_B X own cc) {a b off : Int} {tgt : Nat} (hdg : decode cc pc = .ok (.if_icmp .lt off, 3)) (ht : (pc : Int) + off = (tgt : Int)) (kt : a < b → am_Z X tgt L st h cs sl) (kf : b ≤ a → am_Z X (pc + 3) L st h cs sl) (h1 : -2147483648 ≤ a := by omega) (h2 : a < 2147483648 := by omega) (h3 : -2147483648 ≤ b := by omega) (h4 : b < 2147483648 := by omega) : am_Z X pc L (am_n b :: am_n a :: st) h cs sl := am_icmp_lt hB hdg ht (fun z => kt ((am_i_lt h1 h2 h3 h4).mp z)) (fun z => kf (by have q := mt (am_i_lt h1 h2 h3 h4).mpr z; omega))
theorem ai_zlt (hB : am_B X own cc) {a off : Int} {tgt : Nat} (hdg : decode cc pc = .ok (.ifCond .lt off, 3)) (ht : (pc : Int) + off = (tgt : Int)) (kt : a < 0 → am_Z X tgt L st h cs sl) (kf : 0 ≤ a → am_Z X (pc + 3) L st h cs sl) (h1 : -2147483648 ≤ a := by omega) (h2 : a < 2147483648 := by omega) : am_Z X pc L (am_n a :: st) h cs sl := by
  have h3 : (-2147483648 : Int) ≤ 0 := by omega
  have h4 : (0 : Int) < 2147483648 := by omega
  exact am_if_lt hB hdg ht (fun z => kt ((am_i_lt h1 h2 h3 h4).mp z)) (fun z => kf (by have q := mt (am_i_lt h1 h2 h3 h4).mpr z; omega))
theorem ai_jge (hB : am_B X own cc) {a b off : Int} {tgt : Nat} (hdg : decode cc pc = .ok (.if_icmp .ge off, 3)) (ht : (pc : Int) + off = (tgt : Int)) (kt : b ≤ a → am_Z X tgt L st h cs sl) (kf : a < b → am_Z X (pc + 3) L st h cs sl) (h1 : -2147483648 ≤ a := by omega) (h2 : a < 2147483648 := by omega) (h3 : -2147483648 ≤ b := by omega) (h4 : b < 2147483648 := by omega) : am_Z X pc L (am_n b :: am_n a :: st) h cs sl := am_icmp_ge hB hdg ht (fun z => kt ((am_i_le h3 h4 h1 h2).mp z)) (fun z => kf (by have q := mt (am_i_le h3 h4 h1 h2).mpr z; omega))
theorem ai_zge (hB : am_B X own cc) {a off : Int} {tgt : Nat} (hdg : decode cc pc = .ok (.ifCond .ge off, 3)) (ht : (pc : Int) + off = (tgt : Int)) (kt : 0 ≤ a → am_Z X tgt L st h cs sl) (kf : a < 0 → am_Z X (pc + 3) L st h cs sl) (h1 : -2147483648 ≤ a := by omega) (h2 : a < 2147483648 := by omega) : am_Z X pc L (am_n a :: st) h cs sl := by
  have h3 : (-2147483648 : Int) ≤ 0 := by omega
  have h4 : (0 : Int) < 2147483648 := by omega
  exact am_if_ge hB hdg ht (fun z => kt ((am_i_le h3 h4 h1 h2).mp z)) (fun z => kf (by have q := mt (am_i_le h3 h4 h1 h2).mpr z; omega))
theorem ai_jgt (hB : am_B X own cc) {a b off : Int} {tgt : Nat} (hdg : decode cc pc = .ok (.if_icmp .gt off, 3)) (ht : (pc : Int) + off = (tgt : Int)) (kt : b < a → am_Z X tgt L st h cs sl) (kf : a ≤ b → am_Z X (pc + 3) L st h cs sl) (h1 : -2147483648 ≤ a := by omega) (h2 : a < 2147483648 := by omega) (h3 : -2147483648 ≤ b := by omega) (h4 : b < 2147483648 := by omega) : am_Z X pc L (am_n b :: am_n a :: st) h cs sl := am_icmp_gt hB hdg ht (fun z => kt ((am_i_lt h3 h4 h1 h2).mp z)) (fun z => kf (by have q := mt (am_i_lt h3 h4 h1 h2).mpr z; omega))
theorem ai_zgt (hB : am_B X own cc) {a off : Int} {tgt : Nat} (hdg : decode cc pc = .ok (.ifCond .gt off, 3)) (ht : (pc : Int) + off = (tgt : Int)) (kt : 0 < a → am_Z X tgt L st h cs sl) (kf : a ≤ 0 → am_Z X (pc + 3) L st h cs sl) (h1 : -2147483648 ≤ a := by omega) (h2 : a < 2147483648 := by omega) : am_Z X pc L (am_n a :: st) h cs sl := by
  have h3 : (-2147483648 : Int) ≤ 0 := by omega
  have h4 : (0 : Int) < 2147483648 := by omega
  exact am_if_gt hB hdg ht (fun z => kt ((am_i_lt h3 h4 h1 h2).mp z)) (fun z => kf (by have q := mt (am_i_lt h3 h4 h1 h2).mpr z; omega))
theorem ai_jle (hB : am_B X own cc) {a b off : Int} {tgt : Nat} (hdg : decode cc pc = .ok (.if_icmp .le off, 3)) (ht : (pc : Int) + off = (tgt : Int)) (kt : a ≤ b → am_Z X tgt L st h cs sl) (kf : b < a → am_Z X (pc + 3) L st h cs sl) (h1 : -2147483648 ≤ a := by omega) (h2 : a < 2147483648 := by omega) (h3 : -2147483648 ≤ b := by omega) (h4 : b < 2147483648 := by omega) : am_Z X pc L (am_n b :: am_n a :: st) h cs sl := am_icmp_le hB hdg ht (fun z => kt ((am_i_le h1 h2 h3 h4).mp z)) (fun z => kf (by have q := mt (am_i_le h1 h2 h3 h4).mpr z; omega))
theorem ai_zle (hB : am_B X own cc) {a off : Int} {tgt : Nat} (hdg : decode cc pc = .ok (.ifCond .le off, 3)) (ht : (pc : Int) + off = (tgt : Int)) (kt : a ≤ 0 → am_Z X tgt L st h cs sl) (kf : 0 < a → am_Z X (pc + 3) L st h cs sl) (h1 : -2147483648 ≤ a := by omega) (h2 : a < 2147483648 := by omega) : am_Z X pc L (am_n a :: st) h cs sl := by
  have h3 : (-2147483648 : Int) ≤ 0 := by omega
  have h4 : (0 : Int) < 2147483648 := by omega
  exact am_if_le hB hdg ht (fun z => kt ((am_i_le h1 h2 h3 h4).mp z)) (fun z => kf (by have q := mt (am_i_le h1 h2 h3 h4).mpr z; omega))
theorem ai_iald (hB : am_B X own cc) {q t n : Nat} {g : Int → Int} {a : Int} (hdg : decode cc pc = .ok (.iaload, 1)) (ht : ∀ G : am_G, (am_tys G)[t]? = some (G.2.1 t, .int)) (hr : h[q]? = some (am_ia t n g)) (k : am_Z X (pc + 1) L (am_n (g a) :: st) h cs sl) (h1 : 0 ≤ a := by omega) (h2 : a < n := by omega) (h3 : n < 2147483648 := by omega) : am_Z X pc L (am_n a :: .ref q :: st) h cs sl := by
  refine am_iald hB hdg ht hr (am_i_in h1 h2 h3) ?_
  rw [am_i_cl h1 (by omega), Int.toNat_of_nonneg h1]
  exact k
theorem ai_cald (hB : am_B X own cc) {q t n : Nat} {g : Int → Int} {a : Int} (hdg : decode cc pc = .ok (.caload, 1)) (ht : ∀ G : am_G, (am_tys G)[t]? = some (G.2.1 t, .char)) (hr : h[q]? = some (am_ia t n g)) (k : am_Z X (pc + 1) L (am_n (g a) :: st) h cs sl) (h1 : 0 ≤ a := by omega) (h2 : a < n := by omega) (h3 : n < 2147483648 := by omega) : am_Z X pc L (am_n a :: .ref q :: st) h cs sl := by
  refine am_cald hB hdg ht hr (am_i_in h1 h2 h3) ?_
  rw [am_i_cl h1 (by omega), Int.toNat_of_nonneg h1]
  exact k
theorem ai_iast (hB : am_B X own cc) {q t n : Nat} {g : Int → Int} {a x : Int} {h' : am_H} (hdg : decode cc pc = .ok (.iastore, 1)) (ht : ∀ G : am_G, (am_tys G)[t]? = some (G.2.1 t, .int)) (hr : h[q]? = some (am_ia t n g)) (hh : h.set q (am_ia t n (am_up g a x)) = h') (k : am_Z X (pc + 1) L st h' cs sl) (h1 : 0 ≤ a := by omega) (h2 : a < n := by omega) (h3 : n < 2147483648 := by omega) : am_Z X pc L (am_n x :: am_n a :: .ref q :: st) h cs sl :=
  am_iast hB hdg ht hr (am_i_in h1 h2 h3) (by rw [am_ia_up h1 (by omega)]; exact hh) k
theorem ai_cast (hB : am_B X own cc) {q t n : Nat} {g : Int → Int} {a x : Int} {h' : am_H} (hdg : decode cc pc = .ok (.castore, 1)) (ht : ∀ G : am_G, (am_tys G)[t]? = some (G.2.1 t, .char)) (hr : h[q]? = some (am_ia t n g)) (hh : h.set q (am_ia t n (am_up g a x)) = h') (k : am_Z X (pc + 1) L st h' cs sl) (h1 : 0 ≤ a := by omega) (h2 : a < n := by omega) (h3 : n < 2147483648 := by omega) (h4 : 0 ≤ x := by omega) (h5 : x < 65536 := by omega) : am_Z X pc L (am_n x :: am_n a :: .ref q :: st) h cs sl :=
  am_cast hB hdg ht hr (am_i_in h1 h2 h3) (by rw [am_i_vp h4 h5, am_ia_up h1 (by omega)]; exact hh) k
theorem ai_lald (hB : am_B X own cc) {q t n : Nat} {g : Int → Int64} {a : Int} (hdg : decode cc pc = .ok (.laload, 1)) (ht : ∀ G : am_G, (am_tys G)[t]? = some (G.2.1 t, .long)) (hr : h[q]? = some (am_ja t n g)) (k : am_Z X (pc + 1) L (.long (g a) :: st) h cs sl) (h1 : 0 ≤ a := by omega) (h2 : a < n := by omega) (h3 : n < 2147483648 := by omega) : am_Z X pc L (am_n a :: .ref q :: st) h cs sl := by
  refine am_lald hB hdg ht hr (am_i_in h1 h2 h3) ?_
  rw [am_i_cl h1 (by omega), Int.toNat_of_nonneg h1]
  exact k
theorem ai_last (hB : am_B X own cc) {q t n : Nat} {g : Int → Int64} {a : Int} {x : Int64} {h' : am_H} (hdg : decode cc pc = .ok (.lastore, 1)) (ht : ∀ G : am_G, (am_tys G)[t]? = some (G.2.1 t, .long)) (hr : h[q]? = some (am_ja t n g)) (hh : h.set q (am_ja t n (am_upj g a x)) = h') (k : am_Z X (pc + 1) L st h' cs sl) (h1 : 0 ≤ a := by omega) (h2 : a < n := by omega) (h3 : n < 2147483648 := by omega) : am_Z X pc L (.long x :: am_n a :: .ref q :: st) h cs sl :=
  am_last hB hdg ht hr (am_i_in h1 h2 h3) (by rw [am_ja_up h1 (by omega)]; exact hh) k
theorem ai_aald (hB : am_B X own cc) {q t n z : Nat} {g : Int → Option Nat} {a : Int} {C : String} (hdg : decode cc pc = .ok (.aaload, 1)) (ht : ∀ G : am_G, (am_tys G)[t]? = some (G.2.1 t, .object C)) (hr : h[q]? = some (am_qa t n g)) (hf : g a = some z) (k : am_Z X (pc + 1) L (.ref z :: st) h cs sl) (h1 : 0 ≤ a := by omega) (h2 : a < n := by omega) (h3 : n < 2147483648 := by omega) : am_Z X pc L (am_n a :: .ref q :: st) h cs sl :=
  am_aald hB hdg ht hr (am_i_in h1 h2 h3) (by rw [am_i_cl h1 (by omega), Int.toNat_of_nonneg h1]; exact hf) k
theorem ai_alen (hB : am_B X own cc) {q t n : Nat} {g : Int → Int} {ty : FieldType} (hdg : decode cc pc = .ok (.arraylength, 1)) (ht : ∀ G : am_G, (am_tys G)[t]? = some (G.2.1 t, ty)) (hr : h[q]? = some (am_ia t n g)) (k : am_Z X (pc + 1) L (am_n n :: st) h cs sl) : am_Z X pc L (.ref q :: st) h cs sl :=
  am_alen hB hdg ht hr (am_i_nI n).symm k
end AmInt