/-- an int; a reference (none: null); a long -/
abbrev mj_V : Type := Int32 ⊕ Option Nat ⊕ Int64
abbrev mj_L : Type := List (Option mj_V)
/-- how many cells; their kinds ((0, ci) an object of kind ci; (1, n) int[n]; (2, n) boolean[n]; (3, n) int[n][]); their ints; their references -/
abbrev mj_H : Type := Nat × (Nat → Nat × Nat) × (Nat → Nat → Int32) × (Nat → Nat → Option Nat)
abbrev mj_P : Type := Nat → mj_L → List mj_V → mj_H → Nat → Nat → Prop
abbrev mj_G : Type := Nat → List mj_V → mj_H → (Option mj_V → mj_H → Prop) → Prop
def mj_ca : mj_V → Nat
  | .inl _ => 1
  | .inr (.inl _) => 1
  | .inr (.inr _) => 2
def mj_ct : List mj_V → Nat
  | [] => 0
  | v :: st => mj_ca v + mj_ct st
/-- no long stands just before place i -/
def mj_ok (lv : mj_L) : Nat → Bool
  | 0 => true
  | j + 1 => match lv[j]? with
    | some (some (.inr (.inr _))) => false
    | _ => true
def mj_u2 {α : Type} (f : Nat → Nat → α) (c k : Nat) (v : α) : Nat → Nat → α := va_up f c (va_up (f c) k v)
def mr_iconst (b : ByteArray) (o rt mc ms : Nat) (P : mj_P) : Prop := ∀ (pc : Nat) (lv : mj_L) (st : List mj_V) (h : mj_H) (uc : Nat) (us : Nat) (i : Int) (v : Int32), decode b pc = .ok (.iconst i, 1) → Int32.ofInt i = v → P (pc + 1) lv (.inl v :: st) h uc us → P pc lv (st) h uc us
def mr_bipush (b : ByteArray) (o rt mc ms : Nat) (P : mj_P) : Prop := ∀ (pc : Nat) (lv : mj_L) (st : List mj_V) (h : mj_H) (uc : Nat) (us : Nat) (i : Int) (v : Int32), decode b pc = .ok (.bipush i, 2) → (Int8.ofInt i).toInt32 = v → P (pc + 2) lv (.inl v :: st) h uc us → P pc lv (st) h uc us
def mr_sipush (b : ByteArray) (o rt mc ms : Nat) (P : mj_P) : Prop := ∀ (pc : Nat) (lv : mj_L) (st : List mj_V) (h : mj_H) (uc : Nat) (us : Nat) (i : Int) (v : Int32), decode b pc = .ok (.sipush i, 3) → (Int16.ofInt i).toInt32 = v → P (pc + 3) lv (.inl v :: st) h uc us → P pc lv (st) h uc us
def mr_iadd (b : ByteArray) (o rt mc ms : Nat) (P : mj_P) : Prop := ∀ (pc : Nat) (lv : mj_L) (st : List mj_V) (h : mj_H) (uc : Nat) (us : Nat) (x z : Int32), decode b pc = .ok (.iadd, 1) → P (pc + 1) lv (.inl (x + z) :: st) h uc us → P pc lv (.inl z :: .inl x :: st) h uc us
def mr_isub (b : ByteArray) (o rt mc ms : Nat) (P : mj_P) : Prop := ∀ (pc : Nat) (lv : mj_L) (st : List mj_V) (h : mj_H) (uc : Nat) (us : Nat) (x z : Int32), decode b pc = .ok (.isub, 1) → P (pc + 1) lv (.inl (x - z) :: st) h uc us → P pc lv (.inl z :: .inl x :: st) h uc us
def mr_imul (b : ByteArray) (o rt mc ms : Nat) (P : mj_P) : Prop := ∀ (pc : Nat) (lv : mj_L) (st : List mj_V) (h : mj_H) (uc : Nat) (us : Nat) (x z : Int32), decode b pc = .ok (.imul, 1) → P (pc + 1) lv (.inl (x * z) :: st) h uc us → P pc lv (.inl z :: .inl x :: st) h uc us
def mr_iand (b : ByteArray) (o rt mc ms : Nat) (P : mj_P) : Prop := ∀ (pc : Nat) (lv : mj_L) (st : List mj_V) (h : mj_H) (uc : Nat) (us : Nat) (x z : Int32), decode b pc = .ok (.iand, 1) → P (pc + 1) lv (.inl (x &&& z) :: st) h uc us → P pc lv (.inl z :: .inl x :: st) h uc us
def mr_ior (b : ByteArray) (o rt mc ms : Nat) (P : mj_P) : Prop := ∀ (pc : Nat) (lv : mj_L) (st : List mj_V) (h : mj_H) (uc : Nat) (us : Nat) (x z : Int32), decode b pc = .ok (.ior, 1) → P (pc + 1) lv (.inl (x ||| z) :: st) h uc us → P pc lv (.inl z :: .inl x :: st) h uc us
def mr_ixor (b : ByteArray) (o rt mc ms : Nat) (P : mj_P) : Prop := ∀ (pc : Nat) (lv : mj_L) (st : List mj_V) (h : mj_H) (uc : Nat) (us : Nat) (x z : Int32), decode b pc = .ok (.ixor, 1) → P (pc + 1) lv (.inl (x ^^^ z) :: st) h uc us → P pc lv (.inl z :: .inl x :: st) h uc us
def mr_ishl (b : ByteArray) (o rt mc ms : Nat) (P : mj_P) : Prop := ∀ (pc : Nat) (lv : mj_L) (st : List mj_V) (h : mj_H) (uc : Nat) (us : Nat) (x z : Int32), decode b pc = .ok (.ishl, 1) → P (pc + 1) lv (.inl (x <<< (z &&& 31)) :: st) h uc us → P pc lv (.inl z :: .inl x :: st) h uc us
def mr_ishr (b : ByteArray) (o rt mc ms : Nat) (P : mj_P) : Prop := ∀ (pc : Nat) (lv : mj_L) (st : List mj_V) (h : mj_H) (uc : Nat) (us : Nat) (x z : Int32), decode b pc = .ok (.ishr, 1) → P (pc + 1) lv (.inl (x >>> (z &&& 31)) :: st) h uc us → P pc lv (.inl z :: .inl x :: st) h uc us
def mr_iushr (b : ByteArray) (o rt mc ms : Nat) (P : mj_P) : Prop := ∀ (pc : Nat) (lv : mj_L) (st : List mj_V) (h : mj_H) (uc : Nat) (us : Nat) (x z : Int32), decode b pc = .ok (.iushr, 1) → P (pc + 1) lv (.inl ((x.toUInt32 >>> (z.toUInt32 &&& Int32.toUInt32 31)).toInt32) :: st) h uc us → P pc lv (.inl z :: .inl x :: st) h uc us
def mr_idiv (b : ByteArray) (o rt mc ms : Nat) (P : mj_P) : Prop := ∀ (pc : Nat) (lv : mj_L) (st : List mj_V) (h : mj_H) (uc : Nat) (us : Nat) (x z : Int32), decode b pc = .ok (.idiv, 1) → ¬ z = 0 → P (pc + 1) lv (.inl (x / z) :: st) h uc us → P pc lv (.inl z :: .inl x :: st) h uc us
def mr_irem (b : ByteArray) (o rt mc ms : Nat) (P : mj_P) : Prop := ∀ (pc : Nat) (lv : mj_L) (st : List mj_V) (h : mj_H) (uc : Nat) (us : Nat) (x z : Int32), decode b pc = .ok (.irem, 1) → ¬ z = 0 → P (pc + 1) lv (.inl (x - x / z * z) :: st) h uc us → P pc lv (.inl z :: .inl x :: st) h uc us
def mr_ineg (b : ByteArray) (o rt mc ms : Nat) (P : mj_P) : Prop := ∀ (pc : Nat) (lv : mj_L) (st : List mj_V) (h : mj_H) (uc : Nat) (us : Nat) (x : Int32), decode b pc = .ok (.ineg, 1) → P (pc + 1) lv (.inl (-x) :: st) h uc us → P pc lv (.inl x :: st) h uc us
def mr_dup (b : ByteArray) (o rt mc ms : Nat) (P : mj_P) : Prop := ∀ (pc : Nat) (lv : mj_L) (st : List mj_V) (h : mj_H) (uc : Nat) (us : Nat) (v : mj_V), decode b pc = .ok (.dup, 1) → mj_ca v = 1 → P (pc + 1) lv (v :: v :: st) h uc us → P pc lv (v :: st) h uc us
def mr_pop (b : ByteArray) (o rt mc ms : Nat) (P : mj_P) : Prop := ∀ (pc : Nat) (lv : mj_L) (st : List mj_V) (h : mj_H) (uc : Nat) (us : Nat) (v : mj_V), decode b pc = .ok (.pop, 1) → mj_ca v = 1 → P (pc + 1) lv (st) h uc us → P pc lv (v :: st) h uc us
def mr_dup2 (b : ByteArray) (o rt mc ms : Nat) (P : mj_P) : Prop := ∀ (pc : Nat) (lv : mj_L) (st : List mj_V) (h : mj_H) (uc : Nat) (us : Nat) (v w : mj_V), decode b pc = .ok (.dup2, 1) → mj_ca v = 1 → mj_ca w = 1 → P (pc + 1) lv (v :: w :: v :: w :: st) h uc us → P pc lv (v :: w :: st) h uc us
def mr_dup_x1 (b : ByteArray) (o rt mc ms : Nat) (P : mj_P) : Prop := ∀ (pc : Nat) (lv : mj_L) (st : List mj_V) (h : mj_H) (uc : Nat) (us : Nat) (v w : mj_V), decode b pc = .ok (.dup_x1, 1) → mj_ca v = 1 → mj_ca w = 1 → P (pc + 1) lv (v :: w :: v :: st) h uc us → P pc lv (v :: w :: st) h uc us
def mr_lconst (b : ByteArray) (o rt mc ms : Nat) (P : mj_P) : Prop := ∀ (pc : Nat) (lv : mj_L) (st : List mj_V) (h : mj_H) (uc : Nat) (us : Nat) (f : Fin 2) (v : Int64), decode b pc = .ok (.lconst f, 1) → Int64.ofNat (f : Nat) = v → P (pc + 1) lv (.inr (.inr v) :: st) h uc us → P pc lv (st) h uc us
def mr_lmul (b : ByteArray) (o rt mc ms : Nat) (P : mj_P) : Prop := ∀ (pc : Nat) (lv : mj_L) (st : List mj_V) (h : mj_H) (uc : Nat) (us : Nat) (x z : Int64), decode b pc = .ok (.lmul, 1) → P (pc + 1) lv (.inr (.inr (x * z)) :: st) h uc us → P pc lv (.inr (.inr z) :: .inr (.inr x) :: st) h uc us
def mr_lcmp (b : ByteArray) (o rt mc ms : Nat) (P : mj_P) : Prop := ∀ (pc : Nat) (lv : mj_L) (st : List mj_V) (h : mj_H) (uc : Nat) (us : Nat) (x z : Int64), decode b pc = .ok (.lcmp, 1) → P (pc + 1) lv (.inl (lg_cmp x z) :: st) h uc us → P pc lv (.inr (.inr z) :: .inr (.inr x) :: st) h uc us
def mr_i2l (b : ByteArray) (o rt mc ms : Nat) (P : mj_P) : Prop := ∀ (pc : Nat) (lv : mj_L) (st : List mj_V) (h : mj_H) (uc : Nat) (us : Nat) (x : Int32), decode b pc = .ok (.i2l, 1) → P (pc + 1) lv (.inr (.inr x.toInt64) :: st) h uc us → P pc lv (.inl x :: st) h uc us
def mr_icmp_eq (b : ByteArray) (o rt mc ms : Nat) (P : mj_P) : Prop := ∀ (pc : Nat) (lv : mj_L) (st : List mj_V) (h : mj_H) (uc : Nat) (us : Nat) (x z : Int32) (off : Int) (tgt : Nat), decode b pc = .ok (.if_icmp .eq off, 3) → (pc : Int) + off = (tgt : Int) → (x = z → P tgt lv st h uc us) → (¬ x = z → P (pc + 3) lv st h uc us) → P pc lv (.inl z :: .inl x :: st) h uc us
def mr_icmp_ne (b : ByteArray) (o rt mc ms : Nat) (P : mj_P) : Prop := ∀ (pc : Nat) (lv : mj_L) (st : List mj_V) (h : mj_H) (uc : Nat) (us : Nat) (x z : Int32) (off : Int) (tgt : Nat), decode b pc = .ok (.if_icmp .ne off, 3) → (pc : Int) + off = (tgt : Int) → (¬ x = z → P tgt lv st h uc us) → (x = z → P (pc + 3) lv st h uc us) → P pc lv (.inl z :: .inl x :: st) h uc us
def mr_icmp_lt (b : ByteArray) (o rt mc ms : Nat) (P : mj_P) : Prop := ∀ (pc : Nat) (lv : mj_L) (st : List mj_V) (h : mj_H) (uc : Nat) (us : Nat) (x z : Int32) (off : Int) (tgt : Nat), decode b pc = .ok (.if_icmp .lt off, 3) → (pc : Int) + off = (tgt : Int) → (x < z → P tgt lv st h uc us) → (¬ x < z → P (pc + 3) lv st h uc us) → P pc lv (.inl z :: .inl x :: st) h uc us
def mr_icmp_ge (b : ByteArray) (o rt mc ms : Nat) (P : mj_P) : Prop := ∀ (pc : Nat) (lv : mj_L) (st : List mj_V) (h : mj_H) (uc : Nat) (us : Nat) (x z : Int32) (off : Int) (tgt : Nat), decode b pc = .ok (.if_icmp .ge off, 3) → (pc : Int) + off = (tgt : Int) → (z ≤ x → P tgt lv st h uc us) → (¬ z ≤ x → P (pc + 3) lv st h uc us) → P pc lv (.inl z :: .inl x :: st) h uc us
def mr_icmp_gt (b : ByteArray) (o rt mc ms : Nat) (P : mj_P) : Prop := ∀ (pc : Nat) (lv : mj_L) (st : List mj_V) (h : mj_H) (uc : Nat) (us : Nat) (x z : Int32) (off : Int) (tgt : Nat), decode b pc = .ok (.if_icmp .gt off, 3) → (pc : Int) + off = (tgt : Int) → (z < x → P tgt lv st h uc us) → (¬ z < x → P (pc + 3) lv st h uc us) → P pc lv (.inl z :: .inl x :: st) h uc us
def mr_icmp_le (b : ByteArray) (o rt mc ms : Nat) (P : mj_P) : Prop := ∀ (pc : Nat) (lv : mj_L) (st : List mj_V) (h : mj_H) (uc : Nat) (us : Nat) (x z : Int32) (off : Int) (tgt : Nat), decode b pc = .ok (.if_icmp .le off, 3) → (pc : Int) + off = (tgt : Int) → (x ≤ z → P tgt lv st h uc us) → (¬ x ≤ z → P (pc + 3) lv st h uc us) → P pc lv (.inl z :: .inl x :: st) h uc us
def mr_if_eq (b : ByteArray) (o rt mc ms : Nat) (P : mj_P) : Prop := ∀ (pc : Nat) (lv : mj_L) (st : List mj_V) (h : mj_H) (uc : Nat) (us : Nat) (x : Int32) (off : Int) (tgt : Nat), decode b pc = .ok (.ifCond .eq off, 3) → (pc : Int) + off = (tgt : Int) → (x = 0 → P tgt lv st h uc us) → (¬ x = 0 → P (pc + 3) lv st h uc us) → P pc lv (.inl x :: st) h uc us
def mr_if_ne (b : ByteArray) (o rt mc ms : Nat) (P : mj_P) : Prop := ∀ (pc : Nat) (lv : mj_L) (st : List mj_V) (h : mj_H) (uc : Nat) (us : Nat) (x : Int32) (off : Int) (tgt : Nat), decode b pc = .ok (.ifCond .ne off, 3) → (pc : Int) + off = (tgt : Int) → (¬ x = 0 → P tgt lv st h uc us) → (x = 0 → P (pc + 3) lv st h uc us) → P pc lv (.inl x :: st) h uc us
def mr_if_lt (b : ByteArray) (o rt mc ms : Nat) (P : mj_P) : Prop := ∀ (pc : Nat) (lv : mj_L) (st : List mj_V) (h : mj_H) (uc : Nat) (us : Nat) (x : Int32) (off : Int) (tgt : Nat), decode b pc = .ok (.ifCond .lt off, 3) → (pc : Int) + off = (tgt : Int) → (x < 0 → P tgt lv st h uc us) → (¬ x < 0 → P (pc + 3) lv st h uc us) → P pc lv (.inl x :: st) h uc us
def mr_if_ge (b : ByteArray) (o rt mc ms : Nat) (P : mj_P) : Prop := ∀ (pc : Nat) (lv : mj_L) (st : List mj_V) (h : mj_H) (uc : Nat) (us : Nat) (x : Int32) (off : Int) (tgt : Nat), decode b pc = .ok (.ifCond .ge off, 3) → (pc : Int) + off = (tgt : Int) → (0 ≤ x → P tgt lv st h uc us) → (¬ 0 ≤ x → P (pc + 3) lv st h uc us) → P pc lv (.inl x :: st) h uc us
def mr_if_gt (b : ByteArray) (o rt mc ms : Nat) (P : mj_P) : Prop := ∀ (pc : Nat) (lv : mj_L) (st : List mj_V) (h : mj_H) (uc : Nat) (us : Nat) (x : Int32) (off : Int) (tgt : Nat), decode b pc = .ok (.ifCond .gt off, 3) → (pc : Int) + off = (tgt : Int) → (0 < x → P tgt lv st h uc us) → (¬ 0 < x → P (pc + 3) lv st h uc us) → P pc lv (.inl x :: st) h uc us
def mr_if_le (b : ByteArray) (o rt mc ms : Nat) (P : mj_P) : Prop := ∀ (pc : Nat) (lv : mj_L) (st : List mj_V) (h : mj_H) (uc : Nat) (us : Nat) (x : Int32) (off : Int) (tgt : Nat), decode b pc = .ok (.ifCond .le off, 3) → (pc : Int) + off = (tgt : Int) → (x ≤ 0 → P tgt lv st h uc us) → (¬ x ≤ 0 → P (pc + 3) lv st h uc us) → P pc lv (.inl x :: st) h uc us
def mr_goto (b : ByteArray) (o rt mc ms : Nat) (P : mj_P) : Prop := ∀ (pc : Nat) (lv : mj_L) (st : List mj_V) (h : mj_H) (uc : Nat) (us : Nat) (off : Int) (tgt : Nat), decode b pc = .ok (.goto off, 3) → (pc : Int) + off = (tgt : Int) → P tgt lv st h uc us → P pc lv (st) h uc us
def mr_iload (b : ByteArray) (o rt mc ms : Nat) (P : mj_P) : Prop := ∀ (pc : Nat) (lv : mj_L) (st : List mj_V) (h : mj_H) (uc : Nat) (us : Nat) (i : Nat) (x : Int32), decode b pc = .ok (.iload i, 2) → lv[i]? = some (some (.inl x)) → P (pc + 2) lv (.inl x :: st) h uc us → P pc lv (st) h uc us
def mr_iload_n (b : ByteArray) (o rt mc ms : Nat) (P : mj_P) : Prop := ∀ (pc : Nat) (lv : mj_L) (st : List mj_V) (h : mj_H) (uc : Nat) (us : Nat) (f : Fin 4) (i : Nat) (x : Int32), decode b pc = .ok (.iload_n f, 1) → (f : Nat) = i → lv[i]? = some (some (.inl x)) → P (pc + 1) lv (.inl x :: st) h uc us → P pc lv (st) h uc us
def mr_aload (b : ByteArray) (o rt mc ms : Nat) (P : mj_P) : Prop := ∀ (pc : Nat) (lv : mj_L) (st : List mj_V) (h : mj_H) (uc : Nat) (us : Nat) (i : Nat) (x : Nat), decode b pc = .ok (.aload i, 2) → lv[i]? = some (some (.inr (.inl (some x)))) → P (pc + 2) lv (.inr (.inl (some x)) :: st) h uc us → P pc lv (st) h uc us
def mr_aload_n (b : ByteArray) (o rt mc ms : Nat) (P : mj_P) : Prop := ∀ (pc : Nat) (lv : mj_L) (st : List mj_V) (h : mj_H) (uc : Nat) (us : Nat) (f : Fin 4) (i : Nat) (x : Nat), decode b pc = .ok (.aload_n f, 1) → (f : Nat) = i → lv[i]? = some (some (.inr (.inl (some x)))) → P (pc + 1) lv (.inr (.inl (some x)) :: st) h uc us → P pc lv (st) h uc us
def mr_istore (b : ByteArray) (o rt mc ms : Nat) (P : mj_P) : Prop := ∀ (pc : Nat) (lv : mj_L) (st : List mj_V) (h : mj_H) (uc : Nat) (us : Nat) (i : Nat) (x : Int32), decode b pc = .ok (.istore i, 2) → i < lv.length → mj_ok lv i = true → P (pc + 2) (lv.set i (some (.inl x))) st h uc us → P pc lv (.inl x :: st) h uc us
def mr_istore_n (b : ByteArray) (o rt mc ms : Nat) (P : mj_P) : Prop := ∀ (pc : Nat) (lv : mj_L) (st : List mj_V) (h : mj_H) (uc : Nat) (us : Nat) (f : Fin 4) (i : Nat) (x : Int32), decode b pc = .ok (.istore_n f, 1) → (f : Nat) = i → i < lv.length → mj_ok lv i = true → P (pc + 1) (lv.set i (some (.inl x))) st h uc us → P pc lv (.inl x :: st) h uc us
def mr_astore (b : ByteArray) (o rt mc ms : Nat) (P : mj_P) : Prop := ∀ (pc : Nat) (lv : mj_L) (st : List mj_V) (h : mj_H) (uc : Nat) (us : Nat) (i : Nat) (x : Nat), decode b pc = .ok (.astore i, 2) → i < lv.length → mj_ok lv i = true → P (pc + 2) (lv.set i (some (.inr (.inl (some x))))) st h uc us → P pc lv (.inr (.inl (some x)) :: st) h uc us
def mr_astore_n (b : ByteArray) (o rt mc ms : Nat) (P : mj_P) : Prop := ∀ (pc : Nat) (lv : mj_L) (st : List mj_V) (h : mj_H) (uc : Nat) (us : Nat) (f : Fin 4) (i : Nat) (x : Nat), decode b pc = .ok (.astore_n f, 1) → (f : Nat) = i → i < lv.length → mj_ok lv i = true → P (pc + 1) (lv.set i (some (.inr (.inl (some x))))) st h uc us → P pc lv (.inr (.inl (some x)) :: st) h uc us
def mr_iinc (b : ByteArray) (o rt mc ms : Nat) (P : mj_P) : Prop := ∀ (pc : Nat) (lv : mj_L) (st : List mj_V) (h : mj_H) (uc : Nat) (us : Nat) (i : Nat) (k : Int) (x v : Int32), decode b pc = .ok (.iinc i k, 3) → lv[i]? = some (some (.inl x)) → x + Int32.ofInt k = v → mj_ok lv i = true → P (pc + 3) (lv.set i (some (.inl v))) st h uc us → P pc lv (st) h uc us
def mr_lload_n (b : ByteArray) (o rt mc ms : Nat) (P : mj_P) : Prop := ∀ (pc : Nat) (lv : mj_L) (st : List mj_V) (h : mj_H) (uc : Nat) (us : Nat) (f : Fin 4) (i : Nat) (x : Int64), decode b pc = .ok (.lload_n f, 1) → (f : Nat) = i → lv[i]? = some (some (.inr (.inr x))) → P (pc + 1) lv (.inr (.inr x) :: st) h uc us → P pc lv (st) h uc us
def mr_lstore_n (b : ByteArray) (o rt mc ms : Nat) (P : mj_P) : Prop := ∀ (pc : Nat) (lv : mj_L) (st : List mj_V) (h : mj_H) (uc : Nat) (us : Nat) (f : Fin 4) (i : Nat) (x : Int64), decode b pc = .ok (.lstore_n f, 1) → (f : Nat) = i → i + 1 < lv.length → mj_ok lv i = true → P (pc + 1) ((lv.set i (some (.inr (.inr x)))).set (i + 1) none) st h uc us → P pc lv (.inr (.inr x) :: st) h uc us
def mr_ldc2 (b : ByteArray) (o rt mc ms : Nat) (P : mj_P) : Prop := ∀ (pc : Nat) (lv : mj_L) (st : List mj_V) (h : mj_H) (uc : Nat) (us : Nat) (i : Nat) (v : Int64), decode b pc = .ok (.ldc2_w i, 3) → pg_ldl o i = some v → P (pc + 3) lv (.inr (.inr v) :: st) h uc us → P pc lv (st) h uc us
def mr_ldc (b : ByteArray) (o rt mc ms : Nat) (P : mj_P) : Prop := ∀ (pc : Nat) (lv : mj_L) (st : List mj_V) (h : mj_H) (uc : Nat) (us : Nat) (i : Nat) (v : Int32), decode b pc = .ok (.ldc i, 2) → pg_ldc o i = some v → P (pc + 2) lv (.inl v :: st) h uc us → P pc lv (st) h uc us
def mr_getI (b : ByteArray) (o rt mc ms : Nat) (P : mj_P) : Prop := ∀ (pc : Nat) (lv : mj_L) (st : List mj_V) (h : mj_H) (uc : Nat) (us : Nat) (i ci k c : Nat), decode b pc = .ok (.getfield i, 3) → pg_fld o i = some (ci, k) → pg_fr ci k = false → (c < h.1 ∧ h.2.1 c = (0, ci)) → P (pc + 3) lv (.inl (h.2.2.1 c k) :: st) h uc us → P pc lv (.inr (.inl (some c)) :: st) h uc us
def mr_getR (b : ByteArray) (o rt mc ms : Nat) (P : mj_P) : Prop := ∀ (pc : Nat) (lv : mj_L) (st : List mj_V) (h : mj_H) (uc : Nat) (us : Nat) (i ci k c : Nat) (r : Option Nat), decode b pc = .ok (.getfield i, 3) → pg_fld o i = some (ci, k) → pg_fr ci k = true → (c < h.1 ∧ h.2.1 c = (0, ci)) → h.2.2.2 c k = r → P (pc + 3) lv (.inr (.inl r) :: st) h uc us → P pc lv (.inr (.inl (some c)) :: st) h uc us
def mr_putI (b : ByteArray) (o rt mc ms : Nat) (P : mj_P) : Prop := ∀ (pc : Nat) (lv : mj_L) (st : List mj_V) (h : mj_H) (uc : Nat) (us : Nat) (i ci k c : Nat) (x : Int32), decode b pc = .ok (.putfield i, 3) → pg_fld o i = some (ci, k) → pg_fr ci k = false → pg_fin ci k = false → (narrow (pg_ty ci k) (.int x) = .int x ∧ fits (pg_ty ci k) (.int x) = true) → (c < h.1 ∧ h.2.1 c = (0, ci)) → P (pc + 3) lv st (h.1, h.2.1, mj_u2 h.2.2.1 c k x, h.2.2.2) uc us → P pc lv (.inl x :: .inr (.inl (some c)) :: st) h uc us
def mr_putF (b : ByteArray) (o rt mc ms : Nat) (P : mj_P) : Prop := ∀ (pc : Nat) (lv : mj_L) (st : List mj_V) (h : mj_H) (uc : Nat) (us : Nat) (i ci k c x : Nat), rt = 9 → decode b pc = .ok (.putfield i, 3) → pg_fld o i = some (ci, k) → pg_fr ci k = true → pg_fin ci k = true → o = ci → (c < h.1 ∧ h.2.1 c = (0, ci)) → P (pc + 3) lv st (h.1, h.2.1, h.2.2.1, mj_u2 h.2.2.2 c k (some x)) uc us → P pc lv (.inr (.inl (some x)) :: .inr (.inl (some c)) :: st) h uc us
def mr_iald (b : ByteArray) (o rt mc ms : Nat) (P : mj_P) : Prop := ∀ (pc : Nat) (lv : mj_L) (st : List mj_V) (h : mj_H) (uc : Nat) (us : Nat) (c n : Nat) (i : Int32), decode b pc = .ok (.iaload, 1) → (c < h.1 ∧ h.2.1 c = (1, n)) → vp_in i n → P (pc + 1) lv (.inl (h.2.2.1 c i.toNatClampNeg) :: st) h uc us → P pc lv (.inl i :: .inr (.inl (some c)) :: st) h uc us
def mr_zald (b : ByteArray) (o rt mc ms : Nat) (P : mj_P) : Prop := ∀ (pc : Nat) (lv : mj_L) (st : List mj_V) (h : mj_H) (uc : Nat) (us : Nat) (c n : Nat) (i : Int32), decode b pc = .ok (.baload, 1) → (c < h.1 ∧ h.2.1 c = (2, n)) → vp_in i n → P (pc + 1) lv (.inl (h.2.2.1 c i.toNatClampNeg) :: st) h uc us → P pc lv (.inl i :: .inr (.inl (some c)) :: st) h uc us
def mr_iast (b : ByteArray) (o rt mc ms : Nat) (P : mj_P) : Prop := ∀ (pc : Nat) (lv : mj_L) (st : List mj_V) (h : mj_H) (uc : Nat) (us : Nat) (c n : Nat) (i x : Int32), decode b pc = .ok (.iastore, 1) → (c < h.1 ∧ h.2.1 c = (1, n)) → vp_in i n → P (pc + 1) lv st (h.1, h.2.1, mj_u2 h.2.2.1 c i.toNatClampNeg x, h.2.2.2) uc us → P pc lv (.inl x :: .inl i :: .inr (.inl (some c)) :: st) h uc us
def mr_zast (b : ByteArray) (o rt mc ms : Nat) (P : mj_P) : Prop := ∀ (pc : Nat) (lv : mj_L) (st : List mj_V) (h : mj_H) (uc : Nat) (us : Nat) (c n : Nat) (i x : Int32), decode b pc = .ok (.bastore, 1) → (c < h.1 ∧ h.2.1 c = (2, n)) → vp_in i n → narrow .boolean (.int x) = .int x → P (pc + 1) lv st (h.1, h.2.1, mj_u2 h.2.2.1 c i.toNatClampNeg x, h.2.2.2) uc us → P pc lv (.inl x :: .inl i :: .inr (.inl (some c)) :: st) h uc us
def mr_aald (b : ByteArray) (o rt mc ms : Nat) (P : mj_P) : Prop := ∀ (pc : Nat) (lv : mj_L) (st : List mj_V) (h : mj_H) (uc : Nat) (us : Nat) (c n : Nat) (i : Int32) (r : Option Nat), decode b pc = .ok (.aaload, 1) → (c < h.1 ∧ h.2.1 c = (3, n)) → vp_in i n → h.2.2.2 c i.toNatClampNeg = r → P (pc + 1) lv (.inr (.inl r) :: st) h uc us → P pc lv (.inl i :: .inr (.inl (some c)) :: st) h uc us
def mr_alen (b : ByteArray) (o rt mc ms : Nat) (P : mj_P) : Prop := ∀ (pc : Nat) (lv : mj_L) (st : List mj_V) (h : mj_H) (uc : Nat) (us : Nat) (c t n : Nat), decode b pc = .ok (.arraylength, 1) → (c < h.1 ∧ h.2.1 c = (t, n)) → (0 < t ∧ t < 4) → P (pc + 1) lv (.inl (Int32.ofNat n) :: st) h uc us → P pc lv (.inr (.inl (some c)) :: st) h uc us
def mr_new (b : ByteArray) (o rt mc ms : Nat) (P : mj_P) : Prop := ∀ (pc : Nat) (lv : mj_L) (st : List mj_V) (h : mj_H) (uc : Nat) (us : Nat) (i ci : Nat), decode b pc = .ok (.new i, 3) → pg_new o i = some ci → uc + 1 ≤ mc → us + pg_nf ci ≤ ms → P (pc + 3) lv (.inr (.inl (some h.1)) :: st) (h.1 + 1, va_up h.2.1 h.1 (0, ci), va_up h.2.2.1 h.1 (fun _ => 0), va_up h.2.2.2 h.1 (fun _ => none)) (uc + 1) (us + pg_nf ci) → P pc lv (st) h uc us
def mr_newi (b : ByteArray) (o rt mc ms : Nat) (P : mj_P) : Prop := ∀ (pc : Nat) (lv : mj_L) (st : List mj_V) (h : mj_H) (uc : Nat) (us : Nat) (x : Int32) (n : Nat), decode b pc = .ok (.newarray .int, 2) → ¬ x < 0 → x.toNatClampNeg = n → n ≤ 100000 → uc + 1 ≤ mc → us + n ≤ ms → P (pc + 2) lv (.inr (.inl (some h.1)) :: st) (h.1 + 1, va_up h.2.1 h.1 (1, n), va_up h.2.2.1 h.1 (fun _ => 0), va_up h.2.2.2 h.1 (fun _ => none)) (uc + 1) (us + n) → P pc lv (.inl x :: st) h uc us
def mr_newz (b : ByteArray) (o rt mc ms : Nat) (P : mj_P) : Prop := ∀ (pc : Nat) (lv : mj_L) (st : List mj_V) (h : mj_H) (uc : Nat) (us : Nat) (x : Int32) (n : Nat), decode b pc = .ok (.newarray .boolean, 2) → ¬ x < 0 → x.toNatClampNeg = n → n ≤ 100000 → uc + 1 ≤ mc → us + n ≤ ms → P (pc + 2) lv (.inr (.inl (some h.1)) :: st) (h.1 + 1, va_up h.2.1 h.1 (2, n), va_up h.2.2.1 h.1 (fun _ => 0), va_up h.2.2.2 h.1 (fun _ => none)) (uc + 1) (us + n) → P pc lv (.inl x :: st) h uc us
def mr_newm (b : ByteArray) (o rt mc ms : Nat) (P : mj_P) : Prop := ∀ (pc : Nat) (lv : mj_L) (st : List mj_V) (h : mj_H) (uc : Nat) (us : Nat) (i : Nat) (x z : Int32) (n k : Nat), decode b pc = .ok (.multianewarray i 2, 4) → pg_gr o i = some 1 → ¬ x < 0 → ¬ z < 0 → x.toNatClampNeg = n → z.toNatClampNeg = k → n ≤ 100000 → k ≤ 100000 → uc + (1 + n) ≤ mc → us + (n + n * k) ≤ ms → P (pc + 4) lv (.inr (.inl (some h.1)) :: st) (h.1 + 1 + n, (fun c => if c = h.1 then (3, n) else if h.1 < c ∧ c ≤ h.1 + n then (1, k) else h.2.1 c), (fun c => if h.1 ≤ c ∧ c ≤ h.1 + n then (fun _ => 0) else h.2.2.1 c), (fun c => if c = h.1 then (fun j => if j < n then some (h.1 + 1 + j) else none) else h.2.2.2 c)) (uc + 1 + n) (us + n + n * k) → P pc lv (.inl z :: .inl x :: st) h uc us
def mr_objI (b : ByteArray) (o rt mc ms : Nat) (P : mj_P) : Prop := ∀ (pc : Nat) (lv : mj_L) (st : List mj_V) (h : mj_H) (uc : Nat) (us : Nat) (i c : Nat), decode b pc = .ok (.invokespecial i, 3) → pg_sp o i = some 1 → Nat.ble (mj_ct st) 8 = true → P (pc + 3) lv st h uc us → P pc lv (.inr (.inl (some c)) :: st) h uc us
def mr_max (b : ByteArray) (o rt mc ms : Nat) (P : mj_P) : Prop := ∀ (pc : Nat) (lv : mj_L) (st : List mj_V) (h : mj_H) (uc : Nat) (us : Nat) (i : Nat) (x z : Int32), decode b pc = .ok (.invokestatic i, 3) → pg_sp o i = some 2 → Nat.ble (mj_ct st) 8 = true → P (pc + 3) lv (.inl (if x < z then z else x) :: st) h uc us → P pc lv (.inl z :: .inl x :: st) h uc us
def mr_min (b : ByteArray) (o rt mc ms : Nat) (P : mj_P) : Prop := ∀ (pc : Nat) (lv : mj_L) (st : List mj_V) (h : mj_H) (uc : Nat) (us : Nat) (i : Nat) (x z : Int32), decode b pc = .ok (.invokestatic i, 3) → pg_sp o i = some 3 → Nat.ble (mj_ct st) 8 = true → P (pc + 3) lv (.inl (if z < x then z else x) :: st) h uc us → P pc lv (.inl z :: .inl x :: st) h uc us
def mr_copy (b : ByteArray) (o rt mc ms : Nat) (P : mj_P) : Prop := ∀ (pc : Nat) (lv : mj_L) (st : List mj_V) (h : mj_H) (uc : Nat) (us : Nat) (i a0 a1 n0 n1 : Nat) (sp dp n : Int32), decode b pc = .ok (.invokestatic i, 3) → pg_sp o i = some 4 → (a0 < h.1 ∧ h.2.1 a0 = (1, n0)) → (a1 < h.1 ∧ h.2.1 a1 = (1, n1)) → ¬ sp < 0 → ¬ dp < 0 → ¬ n < 0 → sp.toNatClampNeg + n.toNatClampNeg ≤ n0 → dp.toNatClampNeg + n.toNatClampNeg ≤ n1 → Nat.ble (mj_ct st) 8 = true → P (pc + 3) lv st (h.1, h.2.1, va_up h.2.2.1 a1 (va_cpy (h.2.2.1 a0) (h.2.2.1 a1) sp.toNatClampNeg dp.toNatClampNeg n.toNatClampNeg), h.2.2.2) uc us → P pc lv (.inl n :: .inl dp :: .inr (.inl (some a1)) :: .inl sp :: .inr (.inl (some a0)) :: st) h uc us
def mj_rule (k : Nat) (b : ByteArray) (o rt mc ms : Nat) (P : mj_P) : Prop := match k with
  | 0 => mr_iconst b o rt mc ms P
  | 1 => mr_bipush b o rt mc ms P
  | 2 => mr_sipush b o rt mc ms P
  | 3 => mr_iadd b o rt mc ms P
  | 4 => mr_isub b o rt mc ms P
  | 5 => mr_imul b o rt mc ms P
  | 6 => mr_iand b o rt mc ms P
  | 7 => mr_ior b o rt mc ms P
  | 8 => mr_ixor b o rt mc ms P
  | 9 => mr_ishl b o rt mc ms P
  | 10 => mr_ishr b o rt mc ms P
  | 11 => mr_iushr b o rt mc ms P
  | 12 => mr_idiv b o rt mc ms P
  | 13 => mr_irem b o rt mc ms P
  | 14 => mr_ineg b o rt mc ms P
  | 15 => mr_dup b o rt mc ms P
  | 16 => mr_pop b o rt mc ms P
  | 17 => mr_dup2 b o rt mc ms P
  | 18 => mr_dup_x1 b o rt mc ms P
  | 19 => mr_lconst b o rt mc ms P
  | 20 => mr_lmul b o rt mc ms P
  | 21 => mr_lcmp b o rt mc ms P
  | 22 => mr_i2l b o rt mc ms P
  | 23 => mr_icmp_eq b o rt mc ms P
  | 24 => mr_icmp_ne b o rt mc ms P
  | 25 => mr_icmp_lt b o rt mc ms P
  | 26 => mr_icmp_ge b o rt mc ms P
  | 27 => mr_icmp_gt b o rt mc ms P
  | 28 => mr_icmp_le b o rt mc ms P
  | 29 => mr_if_eq b o rt mc ms P
  | 30 => mr_if_ne b o rt mc ms P
  | 31 => mr_if_lt b o rt mc ms P
  | 32 => mr_if_ge b o rt mc ms P
  | 33 => mr_if_gt b o rt mc ms P
  | 34 => mr_if_le b o rt mc ms P
  | 35 => mr_goto b o rt mc ms P
  | 36 => mr_iload b o rt mc ms P
  | 37 => mr_iload_n b o rt mc ms P
  | 38 => mr_aload b o rt mc ms P
  | 39 => mr_aload_n b o rt mc ms P
  | 40 => mr_istore b o rt mc ms P
  | 41 => mr_istore_n b o rt mc ms P
  | 42 => mr_astore b o rt mc ms P
  | 43 => mr_astore_n b o rt mc ms P
  | 44 => mr_iinc b o rt mc ms P
  | 45 => mr_lload_n b o rt mc ms P
  | 46 => mr_lstore_n b o rt mc ms P
  | 47 => mr_ldc2 b o rt mc ms P
  | 48 => mr_ldc b o rt mc ms P
  | 49 => mr_getI b o rt mc ms P
  | 50 => mr_getR b o rt mc ms P
  | 51 => mr_putI b o rt mc ms P
  | 52 => mr_putF b o rt mc ms P
  | 53 => mr_iald b o rt mc ms P
  | 54 => mr_zald b o rt mc ms P
  | 55 => mr_iast b o rt mc ms P
  | 56 => mr_zast b o rt mc ms P
  | 57 => mr_aald b o rt mc ms P
  | 58 => mr_alen b o rt mc ms P
  | 59 => mr_new b o rt mc ms P
  | 60 => mr_newi b o rt mc ms P
  | 61 => mr_newz b o rt mc ms P
  | 62 => mr_newm b o rt mc ms P
  | 63 => mr_objI b o rt mc ms P
  | 64 => mr_max b o rt mc ms P
  | 65 => mr_min b o rt mc ms P
  | 66 => mr_copy b o rt mc ms P
  | _ => True
def mr_reti (b : ByteArray) (rt : Nat) (post : Option mj_V → mj_H → Prop) (P : mj_P) : Prop := ∀ (pc : Nat) (lv : mj_L) (h : mj_H) (uc : Nat) (us : Nat) (x : Int32), decode b pc = .ok (.ireturn, 1) → (rt = 1 ∨ (rt = 2 ∧ narrow .boolean (.int x) = .int x)) → post (some (.inl x)) h → P pc lv ([.inl x]) h uc us
def mr_retv (b : ByteArray) (rt : Nat) (post : Option mj_V → mj_H → Prop) (P : mj_P) : Prop := ∀ (pc : Nat) (lv : mj_L) (h : mj_H) (uc : Nat) (us : Nat) , decode b pc = .ok (.return_, 1) → (rt = 0 ∨ rt = 9) → post none h → P pc lv ([]) h uc us
def mr_callS (call : mj_G) (b : ByteArray) (o mc ms : Nat) (P : mj_P) : Prop := ∀ (pc : Nat) (lv : mj_L) (st : List mj_V) (h : mj_H) (uc : Nat) (us : Nat) (i z : Nat) (as : List mj_V), decode b pc = .ok (.invokestatic i, 3) → pg_mth o i = some z → pg_kd z = 0 → (as.length = pg_na z ∧ mj_ct as = pg_na z) → Nat.ble (mj_ct st) 8 = true → uc + pg_mc z ≤ mc → us + pg_ms z ≤ ms → call z as h (fun r h2 => P (pc + 3) lv (r.toList ++ st) h2 (uc + pg_mc z) (us + pg_ms z)) → P pc lv (as.reverse ++ st) h uc us
def mr_callV (call : mj_G) (b : ByteArray) (o mc ms : Nat) (P : mj_P) : Prop := ∀ (pc : Nat) (lv : mj_L) (st : List mj_V) (h : mj_H) (uc : Nat) (us : Nat) (i z : Nat) (as : List mj_V), decode b pc = .ok (.invokevirtual i, 3) → pg_mth o i = some z → pg_kd z = 1 → (as.length = pg_na z ∧ mj_ct as = pg_na z) → Nat.ble (mj_ct st) 8 = true → uc + pg_mc z ≤ mc → us + pg_ms z ≤ ms → (∃ c, as.head? = some (.inr (.inl (some c))) ∧ c < h.1 ∧ h.2.1 c = (0, pg_own z)) → call z as h (fun r h2 => P (pc + 3) lv (r.toList ++ st) h2 (uc + pg_mc z) (us + pg_ms z)) → P pc lv (as.reverse ++ st) h uc us
def mr_callI (call : mj_G) (b : ByteArray) (o mc ms : Nat) (P : mj_P) : Prop := ∀ (pc : Nat) (lv : mj_L) (st : List mj_V) (h : mj_H) (uc : Nat) (us : Nat) (i z : Nat) (as : List mj_V), decode b pc = .ok (.invokespecial i, 3) → pg_mth o i = some z → pg_kd z = 2 → (as.length = pg_na z ∧ mj_ct as = pg_na z) → Nat.ble (mj_ct st) 8 = true → uc + pg_mc z ≤ mc → us + pg_ms z ≤ ms → (∃ c, as.head? = some (.inr (.inl (some c)))) → call z as h (fun r h2 => P (pc + 3) lv (r.toList ++ st) h2 (uc + pg_mc z) (us + pg_ms z)) → P pc lv (as.reverse ++ st) h uc us
def mj_C (call : mj_G) (b : ByteArray) (o rt mc ms : Nat) (post : Option mj_V → mj_H → Prop) (P : mj_P) : Prop := (∀ k, mj_rule k b o rt mc ms P) ∧ (mr_callS call b o mc ms P ∧ mr_callV call b o mc ms P ∧ mr_callI call b o mc ms P) ∧ mr_reti b rt post P ∧ mr_retv b rt post P
/-- the small machine comes to a return with post: the least predicate that its rules allow -/
def mj_W (call : mj_G) (b : ByteArray) (o rt mc ms : Nat) (post : Option mj_V → mj_H → Prop) : mj_P := fun pc lv st h uc us => ∀ P : mj_P, mj_C call b o rt mc ms post P → P pc lv st h uc us
theorem mj_W.mono {call : mj_G} {b : ByteArray} {o rt mc ms : Nat} {post post2 : Option mj_V → mj_H → Prop} {pc : Nat} {lv : mj_L} {st : List mj_V} {h : mj_H} {uc us : Nat} (hp : ∀ r h, post r h → post2 r h) (hw : mj_W call b o rt mc ms post pc lv st h uc us) : mj_W call b o rt mc ms post2 pc lv st h uc us :=
  fun P hc => hw P ⟨hc.1, hc.2.1, fun pc lv h uc us x d1 d2 d3 => hc.2.2.1 pc lv h uc us x d1 d2 (hp _ _ d3), fun pc lv h uc us d1 d2 d3 => hc.2.2.2 pc lv h uc us d1 d2 (hp _ _ d3)⟩
def mj_entry (n : Nat) (as : List mj_V) : mj_L := as.map some ++ List.replicate (n - as.length) none
def mj_lv : Nat → mj_G
  | 0 => fun _ _ _ _ => False
  | d + 1 => fun y as h post => mj_W (mj_lv d) (pg_code y) (pg_own y) (pg_rt y) (pg_mc y) (pg_ms y) post 0 (mj_entry (pg_maxL y) as) [] h 0 0
theorem mj_lv_mono : ∀ (d y : Nat) (as : List mj_V) (h : mj_H) (post post2 : Option mj_V → mj_H → Prop), (∀ r h, post r h → post2 r h) → mj_lv d y as h post → mj_lv d y as h post2
  | 0, _, _, _, _, _, _, hw => hw
  | _ + 1, _, _, _, _, _, hp, hw => mj_W.mono hp hw
section mj_rows
variable {d : Nat} {b : ByteArray} {o rt mc ms : Nat} {post : Option mj_V → mj_H → Prop} {pc : Nat} {lv : mj_L} {st : List mj_V} {h : mj_H} {uc us : Nat}
theorem mj_iconst {i : Int} {v : Int32} (e0 : decode b pc = .ok (.iconst i, 1)) (e1 : Int32.ofInt i = v) (k0 : mj_W (mj_lv d) b o rt mc ms post (pc + 1) lv (.inl v :: st) h uc us) : mj_W (mj_lv d) b o rt mc ms post pc lv (st) h uc us :=
  fun P hc => (show mr_iconst b o rt mc ms P from hc.1 0) pc lv st h uc us i v e0 e1 (k0 P hc)
theorem mj_bipush {i : Int} {v : Int32} (e0 : decode b pc = .ok (.bipush i, 2)) (e1 : (Int8.ofInt i).toInt32 = v) (k0 : mj_W (mj_lv d) b o rt mc ms post (pc + 2) lv (.inl v :: st) h uc us) : mj_W (mj_lv d) b o rt mc ms post pc lv (st) h uc us :=
  fun P hc => (show mr_bipush b o rt mc ms P from hc.1 1) pc lv st h uc us i v e0 e1 (k0 P hc)
theorem mj_sipush {i : Int} {v : Int32} (e0 : decode b pc = .ok (.sipush i, 3)) (e1 : (Int16.ofInt i).toInt32 = v) (k0 : mj_W (mj_lv d) b o rt mc ms post (pc + 3) lv (.inl v :: st) h uc us) : mj_W (mj_lv d) b o rt mc ms post pc lv (st) h uc us :=
  fun P hc => (show mr_sipush b o rt mc ms P from hc.1 2) pc lv st h uc us i v e0 e1 (k0 P hc)
theorem mj_iadd {x z : Int32} (e0 : decode b pc = .ok (.iadd, 1)) (k0 : mj_W (mj_lv d) b o rt mc ms post (pc + 1) lv (.inl (x + z) :: st) h uc us) : mj_W (mj_lv d) b o rt mc ms post pc lv (.inl z :: .inl x :: st) h uc us :=
  fun P hc => (show mr_iadd b o rt mc ms P from hc.1 3) pc lv st h uc us x z e0 (k0 P hc)
theorem mj_isub {x z : Int32} (e0 : decode b pc = .ok (.isub, 1)) (k0 : mj_W (mj_lv d) b o rt mc ms post (pc + 1) lv (.inl (x - z) :: st) h uc us) : mj_W (mj_lv d) b o rt mc ms post pc lv (.inl z :: .inl x :: st) h uc us :=
  fun P hc => (show mr_isub b o rt mc ms P from hc.1 4) pc lv st h uc us x z e0 (k0 P hc)
theorem mj_imul {x z : Int32} (e0 : decode b pc = .ok (.imul, 1)) (k0 : mj_W (mj_lv d) b o rt mc ms post (pc + 1) lv (.inl (x * z) :: st) h uc us) : mj_W (mj_lv d) b o rt mc ms post pc lv (.inl z :: .inl x :: st) h uc us :=
  fun P hc => (show mr_imul b o rt mc ms P from hc.1 5) pc lv st h uc us x z e0 (k0 P hc)
theorem mj_iand {x z : Int32} (e0 : decode b pc = .ok (.iand, 1)) (k0 : mj_W (mj_lv d) b o rt mc ms post (pc + 1) lv (.inl (x &&& z) :: st) h uc us) : mj_W (mj_lv d) b o rt mc ms post pc lv (.inl z :: .inl x :: st) h uc us :=
  fun P hc => (show mr_iand b o rt mc ms P from hc.1 6) pc lv st h uc us x z e0 (k0 P hc)
theorem mj_ior {x z : Int32} (e0 : decode b pc = .ok (.ior, 1)) (k0 : mj_W (mj_lv d) b o rt mc ms post (pc + 1) lv (.inl (x ||| z) :: st) h uc us) : mj_W (mj_lv d) b o rt mc ms post pc lv (.inl z :: .inl x :: st) h uc us :=
  fun P hc => (show mr_ior b o rt mc ms P from hc.1 7) pc lv st h uc us x z e0 (k0 P hc)
theorem mj_ixor {x z : Int32} (e0 : decode b pc = .ok (.ixor, 1)) (k0 : mj_W (mj_lv d) b o rt mc ms post (pc + 1) lv (.inl (x ^^^ z) :: st) h uc us) : mj_W (mj_lv d) b o rt mc ms post pc lv (.inl z :: .inl x :: st) h uc us :=
  fun P hc => (show mr_ixor b o rt mc ms P from hc.1 8) pc lv st h uc us x z e0 (k0 P hc)
theorem mj_ishl {x z : Int32} (e0 : decode b pc = .ok (.ishl, 1)) (k0 : mj_W (mj_lv d) b o rt mc ms post (pc + 1) lv (.inl (x <<< (z &&& 31)) :: st) h uc us) : mj_W (mj_lv d) b o rt mc ms post pc lv (.inl z :: .inl x :: st) h uc us :=
  fun P hc => (show mr_ishl b o rt mc ms P from hc.1 9) pc lv st h uc us x z e0 (k0 P hc)
theorem mj_ishr {x z : Int32} (e0 : decode b pc = .ok (.ishr, 1)) (k0 : mj_W (mj_lv d) b o rt mc ms post (pc + 1) lv (.inl (x >>> (z &&& 31)) :: st) h uc us) : mj_W (mj_lv d) b o rt mc ms post pc lv (.inl z :: .inl x :: st) h uc us :=
  fun P hc => (show mr_ishr b o rt mc ms P from hc.1 10) pc lv st h uc us x z e0 (k0 P hc)
theorem mj_iushr {x z : Int32} (e0 : decode b pc = .ok (.iushr, 1)) (k0 : mj_W (mj_lv d) b o rt mc ms post (pc + 1) lv (.inl ((x.toUInt32 >>> (z.toUInt32 &&& Int32.toUInt32 31)).toInt32) :: st) h uc us) : mj_W (mj_lv d) b o rt mc ms post pc lv (.inl z :: .inl x :: st) h uc us :=
  fun P hc => (show mr_iushr b o rt mc ms P from hc.1 11) pc lv st h uc us x z e0 (k0 P hc)
theorem mj_idiv {x z : Int32} (e0 : decode b pc = .ok (.idiv, 1)) (e1 : ¬ z = 0) (k0 : mj_W (mj_lv d) b o rt mc ms post (pc + 1) lv (.inl (x / z) :: st) h uc us) : mj_W (mj_lv d) b o rt mc ms post pc lv (.inl z :: .inl x :: st) h uc us :=
  fun P hc => (show mr_idiv b o rt mc ms P from hc.1 12) pc lv st h uc us x z e0 e1 (k0 P hc)
theorem mj_irem {x z : Int32} (e0 : decode b pc = .ok (.irem, 1)) (e1 : ¬ z = 0) (k0 : mj_W (mj_lv d) b o rt mc ms post (pc + 1) lv (.inl (x - x / z * z) :: st) h uc us) : mj_W (mj_lv d) b o rt mc ms post pc lv (.inl z :: .inl x :: st) h uc us :=
  fun P hc => (show mr_irem b o rt mc ms P from hc.1 13) pc lv st h uc us x z e0 e1 (k0 P hc)
theorem mj_ineg {x : Int32} (e0 : decode b pc = .ok (.ineg, 1)) (k0 : mj_W (mj_lv d) b o rt mc ms post (pc + 1) lv (.inl (-x) :: st) h uc us) : mj_W (mj_lv d) b o rt mc ms post pc lv (.inl x :: st) h uc us :=
  fun P hc => (show mr_ineg b o rt mc ms P from hc.1 14) pc lv st h uc us x e0 (k0 P hc)
theorem mj_dup {v : mj_V} (e0 : decode b pc = .ok (.dup, 1)) (e1 : mj_ca v = 1) (k0 : mj_W (mj_lv d) b o rt mc ms post (pc + 1) lv (v :: v :: st) h uc us) : mj_W (mj_lv d) b o rt mc ms post pc lv (v :: st) h uc us :=
  fun P hc => (show mr_dup b o rt mc ms P from hc.1 15) pc lv st h uc us v e0 e1 (k0 P hc)
theorem mj_pop {v : mj_V} (e0 : decode b pc = .ok (.pop, 1)) (e1 : mj_ca v = 1) (k0 : mj_W (mj_lv d) b o rt mc ms post (pc + 1) lv (st) h uc us) : mj_W (mj_lv d) b o rt mc ms post pc lv (v :: st) h uc us :=
  fun P hc => (show mr_pop b o rt mc ms P from hc.1 16) pc lv st h uc us v e0 e1 (k0 P hc)
theorem mj_dup2 {v w : mj_V} (e0 : decode b pc = .ok (.dup2, 1)) (e1 : mj_ca v = 1) (e2 : mj_ca w = 1) (k0 : mj_W (mj_lv d) b o rt mc ms post (pc + 1) lv (v :: w :: v :: w :: st) h uc us) : mj_W (mj_lv d) b o rt mc ms post pc lv (v :: w :: st) h uc us :=
  fun P hc => (show mr_dup2 b o rt mc ms P from hc.1 17) pc lv st h uc us v w e0 e1 e2 (k0 P hc)
theorem mj_dup_x1 {v w : mj_V} (e0 : decode b pc = .ok (.dup_x1, 1)) (e1 : mj_ca v = 1) (e2 : mj_ca w = 1) (k0 : mj_W (mj_lv d) b o rt mc ms post (pc + 1) lv (v :: w :: v :: st) h uc us) : mj_W (mj_lv d) b o rt mc ms post pc lv (v :: w :: st) h uc us :=
  fun P hc => (show mr_dup_x1 b o rt mc ms P from hc.1 18) pc lv st h uc us v w e0 e1 e2 (k0 P hc)
theorem mj_lconst {f : Fin 2} {v : Int64} (e0 : decode b pc = .ok (.lconst f, 1)) (e1 : Int64.ofNat (f : Nat) = v) (k0 : mj_W (mj_lv d) b o rt mc ms post (pc + 1) lv (.inr (.inr v) :: st) h uc us) : mj_W (mj_lv d) b o rt mc ms post pc lv (st) h uc us :=
  fun P hc => (show mr_lconst b o rt mc ms P from hc.1 19) pc lv st h uc us f v e0 e1 (k0 P hc)
theorem mj_lmul {x z : Int64} (e0 : decode b pc = .ok (.lmul, 1)) (k0 : mj_W (mj_lv d) b o rt mc ms post (pc + 1) lv (.inr (.inr (x * z)) :: st) h uc us) : mj_W (mj_lv d) b o rt mc ms post pc lv (.inr (.inr z) :: .inr (.inr x) :: st) h uc us :=
  fun P hc => (show mr_lmul b o rt mc ms P from hc.1 20) pc lv st h uc us x z e0 (k0 P hc)
theorem mj_lcmp {x z : Int64} (e0 : decode b pc = .ok (.lcmp, 1)) (k0 : mj_W (mj_lv d) b o rt mc ms post (pc + 1) lv (.inl (lg_cmp x z) :: st) h uc us) : mj_W (mj_lv d) b o rt mc ms post pc lv (.inr (.inr z) :: .inr (.inr x) :: st) h uc us :=
  fun P hc => (show mr_lcmp b o rt mc ms P from hc.1 21) pc lv st h uc us x z e0 (k0 P hc)
theorem mj_i2l {x : Int32} (e0 : decode b pc = .ok (.i2l, 1)) (k0 : mj_W (mj_lv d) b o rt mc ms post (pc + 1) lv (.inr (.inr x.toInt64) :: st) h uc us) : mj_W (mj_lv d) b o rt mc ms post pc lv (.inl x :: st) h uc us :=
  fun P hc => (show mr_i2l b o rt mc ms P from hc.1 22) pc lv st h uc us x e0 (k0 P hc)
theorem mj_icmp_eq {x z : Int32} {off : Int} {tgt : Nat} (e0 : decode b pc = .ok (.if_icmp .eq off, 3)) (e1 : (pc : Int) + off = (tgt : Int)) (k0 : (x = z → mj_W (mj_lv d) b o rt mc ms post tgt lv st h uc us)) (k1 : (¬ x = z → mj_W (mj_lv d) b o rt mc ms post (pc + 3) lv st h uc us)) : mj_W (mj_lv d) b o rt mc ms post pc lv (.inl z :: .inl x :: st) h uc us :=
  fun P hc => (show mr_icmp_eq b o rt mc ms P from hc.1 23) pc lv st h uc us x z off tgt e0 e1 (fun g => k0 g P hc) (fun g => k1 g P hc)
theorem mj_icmp_ne {x z : Int32} {off : Int} {tgt : Nat} (e0 : decode b pc = .ok (.if_icmp .ne off, 3)) (e1 : (pc : Int) + off = (tgt : Int)) (k0 : (¬ x = z → mj_W (mj_lv d) b o rt mc ms post tgt lv st h uc us)) (k1 : (x = z → mj_W (mj_lv d) b o rt mc ms post (pc + 3) lv st h uc us)) : mj_W (mj_lv d) b o rt mc ms post pc lv (.inl z :: .inl x :: st) h uc us :=
  fun P hc => (show mr_icmp_ne b o rt mc ms P from hc.1 24) pc lv st h uc us x z off tgt e0 e1 (fun g => k0 g P hc) (fun g => k1 g P hc)
theorem mj_icmp_lt {x z : Int32} {off : Int} {tgt : Nat} (e0 : decode b pc = .ok (.if_icmp .lt off, 3)) (e1 : (pc : Int) + off = (tgt : Int)) (k0 : (x < z → mj_W (mj_lv d) b o rt mc ms post tgt lv st h uc us)) (k1 : (¬ x < z → mj_W (mj_lv d) b o rt mc ms post (pc + 3) lv st h uc us)) : mj_W (mj_lv d) b o rt mc ms post pc lv (.inl z :: .inl x :: st) h uc us :=
  fun P hc => (show mr_icmp_lt b o rt mc ms P from hc.1 25) pc lv st h uc us x z off tgt e0 e1 (fun g => k0 g P hc) (fun g => k1 g P hc)
theorem mj_icmp_ge {x z : Int32} {off : Int} {tgt : Nat} (e0 : decode b pc = .ok (.if_icmp .ge off, 3)) (e1 : (pc : Int) + off = (tgt : Int)) (k0 : (z ≤ x → mj_W (mj_lv d) b o rt mc ms post tgt lv st h uc us)) (k1 : (¬ z ≤ x → mj_W (mj_lv d) b o rt mc ms post (pc + 3) lv st h uc us)) : mj_W (mj_lv d) b o rt mc ms post pc lv (.inl z :: .inl x :: st) h uc us :=
  fun P hc => (show mr_icmp_ge b o rt mc ms P from hc.1 26) pc lv st h uc us x z off tgt e0 e1 (fun g => k0 g P hc) (fun g => k1 g P hc)
theorem mj_icmp_gt {x z : Int32} {off : Int} {tgt : Nat} (e0 : decode b pc = .ok (.if_icmp .gt off, 3)) (e1 : (pc : Int) + off = (tgt : Int)) (k0 : (z < x → mj_W (mj_lv d) b o rt mc ms post tgt lv st h uc us)) (k1 : (¬ z < x → mj_W (mj_lv d) b o rt mc ms post (pc + 3) lv st h uc us)) : mj_W (mj_lv d) b o rt mc ms post pc lv (.inl z :: .inl x :: st) h uc us :=
  fun P hc => (show mr_icmp_gt b o rt mc ms P from hc.1 27) pc lv st h uc us x z off tgt e0 e1 (fun g => k0 g P hc) (fun g => k1 g P hc)
theorem mj_icmp_le {x z : Int32} {off : Int} {tgt : Nat} (e0 : decode b pc = .ok (.if_icmp .le off, 3)) (e1 : (pc : Int) + off = (tgt : Int)) (k0 : (x ≤ z → mj_W (mj_lv d) b o rt mc ms post tgt lv st h uc us)) (k1 : (¬ x ≤ z → mj_W (mj_lv d) b o rt mc ms post (pc + 3) lv st h uc us)) : mj_W (mj_lv d) b o rt mc ms post pc lv (.inl z :: .inl x :: st) h uc us :=
  fun P hc => (show mr_icmp_le b o rt mc ms P from hc.1 28) pc lv st h uc us x z off tgt e0 e1 (fun g => k0 g P hc) (fun g => k1 g P hc)
theorem mj_if_eq {x : Int32} {off : Int} {tgt : Nat} (e0 : decode b pc = .ok (.ifCond .eq off, 3)) (e1 : (pc : Int) + off = (tgt : Int)) (k0 : (x = 0 → mj_W (mj_lv d) b o rt mc ms post tgt lv st h uc us)) (k1 : (¬ x = 0 → mj_W (mj_lv d) b o rt mc ms post (pc + 3) lv st h uc us)) : mj_W (mj_lv d) b o rt mc ms post pc lv (.inl x :: st) h uc us :=
  fun P hc => (show mr_if_eq b o rt mc ms P from hc.1 29) pc lv st h uc us x off tgt e0 e1 (fun g => k0 g P hc) (fun g => k1 g P hc)
theorem mj_if_ne {x : Int32} {off : Int} {tgt : Nat} (e0 : decode b pc = .ok (.ifCond .ne off, 3)) (e1 : (pc : Int) + off = (tgt : Int)) (k0 : (¬ x = 0 → mj_W (mj_lv d) b o rt mc ms post tgt lv st h uc us)) (k1 : (x = 0 → mj_W (mj_lv d) b o rt mc ms post (pc + 3) lv st h uc us)) : mj_W (mj_lv d) b o rt mc ms post pc lv (.inl x :: st) h uc us :=
  fun P hc => (show mr_if_ne b o rt mc ms P from hc.1 30) pc lv st h uc us x off tgt e0 e1 (fun g => k0 g P hc) (fun g => k1 g P hc)
theorem mj_if_lt {x : Int32} {off : Int} {tgt : Nat} (e0 : decode b pc = .ok (.ifCond .lt off, 3)) (e1 : (pc : Int) + off = (tgt : Int)) (k0 : (x < 0 → mj_W (mj_lv d) b o rt mc ms post tgt lv st h uc us)) (k1 : (¬ x < 0 → mj_W (mj_lv d) b o rt mc ms post (pc + 3) lv st h uc us)) : mj_W (mj_lv d) b o rt mc ms post pc lv (.inl x :: st) h uc us :=
  fun P hc => (show mr_if_lt b o rt mc ms P from hc.1 31) pc lv st h uc us x off tgt e0 e1 (fun g => k0 g P hc) (fun g => k1 g P hc)
theorem mj_if_ge {x : Int32} {off : Int} {tgt : Nat} (e0 : decode b pc = .ok (.ifCond .ge off, 3)) (e1 : (pc : Int) + off = (tgt : Int)) (k0 : (0 ≤ x → mj_W (mj_lv d) b o rt mc ms post tgt lv st h uc us)) (k1 : (¬ 0 ≤ x → mj_W (mj_lv d) b o rt mc ms post (pc + 3) lv st h uc us)) : mj_W (mj_lv d) b o rt mc ms post pc lv (.inl x :: st) h uc us :=
  fun P hc => (show mr_if_ge b o rt mc ms P from hc.1 32) pc lv st h uc us x off tgt e0 e1 (fun g => k0 g P hc) (fun g => k1 g P hc)
theorem mj_if_gt {x : Int32} {off : Int} {tgt : Nat} (e0 : decode b pc = .ok (.ifCond .gt off, 3)) (e1 : (pc : Int) + off = (tgt : Int)) (k0 : (0 < x → mj_W (mj_lv d) b o rt mc ms post tgt lv st h uc us)) (k1 : (¬ 0 < x → mj_W (mj_lv d) b o rt mc ms post (pc + 3) lv st h uc us)) : mj_W (mj_lv d) b o rt mc ms post pc lv (.inl x :: st) h uc us :=
  fun P hc => (show mr_if_gt b o rt mc ms P from hc.1 33) pc lv st h uc us x off tgt e0 e1 (fun g => k0 g P hc) (fun g => k1 g P hc)
theorem mj_if_le {x : Int32} {off : Int} {tgt : Nat} (e0 : decode b pc = .ok (.ifCond .le off, 3)) (e1 : (pc : Int) + off = (tgt : Int)) (k0 : (x ≤ 0 → mj_W (mj_lv d) b o rt mc ms post tgt lv st h uc us)) (k1 : (¬ x ≤ 0 → mj_W (mj_lv d) b o rt mc ms post (pc + 3) lv st h uc us)) : mj_W (mj_lv d) b o rt mc ms post pc lv (.inl x :: st) h uc us :=
  fun P hc => (show mr_if_le b o rt mc ms P from hc.1 34) pc lv st h uc us x off tgt e0 e1 (fun g => k0 g P hc) (fun g => k1 g P hc)
theorem mj_goto {off : Int} {tgt : Nat} (e0 : decode b pc = .ok (.goto off, 3)) (e1 : (pc : Int) + off = (tgt : Int)) (k0 : mj_W (mj_lv d) b o rt mc ms post tgt lv st h uc us) : mj_W (mj_lv d) b o rt mc ms post pc lv (st) h uc us :=
  fun P hc => (show mr_goto b o rt mc ms P from hc.1 35) pc lv st h uc us off tgt e0 e1 (k0 P hc)
theorem mj_iload {i : Nat} {x : Int32} (e0 : decode b pc = .ok (.iload i, 2)) (e1 : lv[i]? = some (some (.inl x))) (k0 : mj_W (mj_lv d) b o rt mc ms post (pc + 2) lv (.inl x :: st) h uc us) : mj_W (mj_lv d) b o rt mc ms post pc lv (st) h uc us :=
  fun P hc => (show mr_iload b o rt mc ms P from hc.1 36) pc lv st h uc us i x e0 e1 (k0 P hc)
theorem mj_iload_n {f : Fin 4} {i : Nat} {x : Int32} (e0 : decode b pc = .ok (.iload_n f, 1)) (e1 : (f : Nat) = i) (e2 : lv[i]? = some (some (.inl x))) (k0 : mj_W (mj_lv d) b o rt mc ms post (pc + 1) lv (.inl x :: st) h uc us) : mj_W (mj_lv d) b o rt mc ms post pc lv (st) h uc us :=
  fun P hc => (show mr_iload_n b o rt mc ms P from hc.1 37) pc lv st h uc us f i x e0 e1 e2 (k0 P hc)
theorem mj_aload {i : Nat} {x : Nat} (e0 : decode b pc = .ok (.aload i, 2)) (e1 : lv[i]? = some (some (.inr (.inl (some x))))) (k0 : mj_W (mj_lv d) b o rt mc ms post (pc + 2) lv (.inr (.inl (some x)) :: st) h uc us) : mj_W (mj_lv d) b o rt mc ms post pc lv (st) h uc us :=
  fun P hc => (show mr_aload b o rt mc ms P from hc.1 38) pc lv st h uc us i x e0 e1 (k0 P hc)
theorem mj_aload_n {f : Fin 4} {i : Nat} {x : Nat} (e0 : decode b pc = .ok (.aload_n f, 1)) (e1 : (f : Nat) = i) (e2 : lv[i]? = some (some (.inr (.inl (some x))))) (k0 : mj_W (mj_lv d) b o rt mc ms post (pc + 1) lv (.inr (.inl (some x)) :: st) h uc us) : mj_W (mj_lv d) b o rt mc ms post pc lv (st) h uc us :=
  fun P hc => (show mr_aload_n b o rt mc ms P from hc.1 39) pc lv st h uc us f i x e0 e1 e2 (k0 P hc)
theorem mj_istore {i : Nat} {x : Int32} (e0 : decode b pc = .ok (.istore i, 2)) (e1 : i < lv.length) (e2 : mj_ok lv i = true) (k0 : mj_W (mj_lv d) b o rt mc ms post (pc + 2) (lv.set i (some (.inl x))) st h uc us) : mj_W (mj_lv d) b o rt mc ms post pc lv (.inl x :: st) h uc us :=
  fun P hc => (show mr_istore b o rt mc ms P from hc.1 40) pc lv st h uc us i x e0 e1 e2 (k0 P hc)
theorem mj_istore_n {f : Fin 4} {i : Nat} {x : Int32} (e0 : decode b pc = .ok (.istore_n f, 1)) (e1 : (f : Nat) = i) (e2 : i < lv.length) (e3 : mj_ok lv i = true) (k0 : mj_W (mj_lv d) b o rt mc ms post (pc + 1) (lv.set i (some (.inl x))) st h uc us) : mj_W (mj_lv d) b o rt mc ms post pc lv (.inl x :: st) h uc us :=
  fun P hc => (show mr_istore_n b o rt mc ms P from hc.1 41) pc lv st h uc us f i x e0 e1 e2 e3 (k0 P hc)
theorem mj_astore {i : Nat} {x : Nat} (e0 : decode b pc = .ok (.astore i, 2)) (e1 : i < lv.length) (e2 : mj_ok lv i = true) (k0 : mj_W (mj_lv d) b o rt mc ms post (pc + 2) (lv.set i (some (.inr (.inl (some x))))) st h uc us) : mj_W (mj_lv d) b o rt mc ms post pc lv (.inr (.inl (some x)) :: st) h uc us :=
  fun P hc => (show mr_astore b o rt mc ms P from hc.1 42) pc lv st h uc us i x e0 e1 e2 (k0 P hc)
theorem mj_astore_n {f : Fin 4} {i : Nat} {x : Nat} (e0 : decode b pc = .ok (.astore_n f, 1)) (e1 : (f : Nat) = i) (e2 : i < lv.length) (e3 : mj_ok lv i = true) (k0 : mj_W (mj_lv d) b o rt mc ms post (pc + 1) (lv.set i (some (.inr (.inl (some x))))) st h uc us) : mj_W (mj_lv d) b o rt mc ms post pc lv (.inr (.inl (some x)) :: st) h uc us :=
  fun P hc => (show mr_astore_n b o rt mc ms P from hc.1 43) pc lv st h uc us f i x e0 e1 e2 e3 (k0 P hc)
theorem mj_iinc {i : Nat} {k : Int} {x v : Int32} (e0 : decode b pc = .ok (.iinc i k, 3)) (e1 : lv[i]? = some (some (.inl x))) (e2 : x + Int32.ofInt k = v) (e3 : mj_ok lv i = true) (k0 : mj_W (mj_lv d) b o rt mc ms post (pc + 3) (lv.set i (some (.inl v))) st h uc us) : mj_W (mj_lv d) b o rt mc ms post pc lv (st) h uc us :=
  fun P hc => (show mr_iinc b o rt mc ms P from hc.1 44) pc lv st h uc us i k x v e0 e1 e2 e3 (k0 P hc)
theorem mj_lload_n {f : Fin 4} {i : Nat} {x : Int64} (e0 : decode b pc = .ok (.lload_n f, 1)) (e1 : (f : Nat) = i) (e2 : lv[i]? = some (some (.inr (.inr x)))) (k0 : mj_W (mj_lv d) b o rt mc ms post (pc + 1) lv (.inr (.inr x) :: st) h uc us) : mj_W (mj_lv d) b o rt mc ms post pc lv (st) h uc us :=
  fun P hc => (show mr_lload_n b o rt mc ms P from hc.1 45) pc lv st h uc us f i x e0 e1 e2 (k0 P hc)
theorem mj_lstore_n {f : Fin 4} {i : Nat} {x : Int64} (e0 : decode b pc = .ok (.lstore_n f, 1)) (e1 : (f : Nat) = i) (e2 : i + 1 < lv.length) (e3 : mj_ok lv i = true) (k0 : mj_W (mj_lv d) b o rt mc ms post (pc + 1) ((lv.set i (some (.inr (.inr x)))).set (i + 1) none) st h uc us) : mj_W (mj_lv d) b o rt mc ms post pc lv (.inr (.inr x) :: st) h uc us :=
  fun P hc => (show mr_lstore_n b o rt mc ms P from hc.1 46) pc lv st h uc us f i x e0 e1 e2 e3 (k0 P hc)
theorem mj_ldc2 {i : Nat} {v : Int64} (e0 : decode b pc = .ok (.ldc2_w i, 3)) (e1 : pg_ldl o i = some v) (k0 : mj_W (mj_lv d) b o rt mc ms post (pc + 3) lv (.inr (.inr v) :: st) h uc us) : mj_W (mj_lv d) b o rt mc ms post pc lv (st) h uc us :=
  fun P hc => (show mr_ldc2 b o rt mc ms P from hc.1 47) pc lv st h uc us i v e0 e1 (k0 P hc)
theorem mj_ldc {i : Nat} {v : Int32} (e0 : decode b pc = .ok (.ldc i, 2)) (e1 : pg_ldc o i = some v) (k0 : mj_W (mj_lv d) b o rt mc ms post (pc + 2) lv (.inl v :: st) h uc us) : mj_W (mj_lv d) b o rt mc ms post pc lv (st) h uc us :=
  fun P hc => (show mr_ldc b o rt mc ms P from hc.1 48) pc lv st h uc us i v e0 e1 (k0 P hc)
theorem mj_getI {i ci k c : Nat} (e0 : decode b pc = .ok (.getfield i, 3)) (e1 : pg_fld o i = some (ci, k)) (e2 : pg_fr ci k = false) (e3 : (c < h.1 ∧ h.2.1 c = (0, ci))) (k0 : mj_W (mj_lv d) b o rt mc ms post (pc + 3) lv (.inl (h.2.2.1 c k) :: st) h uc us) : mj_W (mj_lv d) b o rt mc ms post pc lv (.inr (.inl (some c)) :: st) h uc us :=
  fun P hc => (show mr_getI b o rt mc ms P from hc.1 49) pc lv st h uc us i ci k c e0 e1 e2 e3 (k0 P hc)
theorem mj_getR {i ci k c : Nat} {r : Option Nat} (e0 : decode b pc = .ok (.getfield i, 3)) (e1 : pg_fld o i = some (ci, k)) (e2 : pg_fr ci k = true) (e3 : (c < h.1 ∧ h.2.1 c = (0, ci))) (e4 : h.2.2.2 c k = r) (k0 : mj_W (mj_lv d) b o rt mc ms post (pc + 3) lv (.inr (.inl r) :: st) h uc us) : mj_W (mj_lv d) b o rt mc ms post pc lv (.inr (.inl (some c)) :: st) h uc us :=
  fun P hc => (show mr_getR b o rt mc ms P from hc.1 50) pc lv st h uc us i ci k c r e0 e1 e2 e3 e4 (k0 P hc)
theorem mj_putI {i ci k c : Nat} {x : Int32} (e0 : decode b pc = .ok (.putfield i, 3)) (e1 : pg_fld o i = some (ci, k)) (e2 : pg_fr ci k = false) (e3 : pg_fin ci k = false) (e4 : (narrow (pg_ty ci k) (.int x) = .int x ∧ fits (pg_ty ci k) (.int x) = true)) (e5 : (c < h.1 ∧ h.2.1 c = (0, ci))) (k0 : mj_W (mj_lv d) b o rt mc ms post (pc + 3) lv st (h.1, h.2.1, mj_u2 h.2.2.1 c k x, h.2.2.2) uc us) : mj_W (mj_lv d) b o rt mc ms post pc lv (.inl x :: .inr (.inl (some c)) :: st) h uc us :=
  fun P hc => (show mr_putI b o rt mc ms P from hc.1 51) pc lv st h uc us i ci k c x e0 e1 e2 e3 e4 e5 (k0 P hc)
theorem mj_putF {i ci k c x : Nat} (e0 : rt = 9) (e1 : decode b pc = .ok (.putfield i, 3)) (e2 : pg_fld o i = some (ci, k)) (e3 : pg_fr ci k = true) (e4 : pg_fin ci k = true) (e5 : o = ci) (e6 : (c < h.1 ∧ h.2.1 c = (0, ci))) (k0 : mj_W (mj_lv d) b o rt mc ms post (pc + 3) lv st (h.1, h.2.1, h.2.2.1, mj_u2 h.2.2.2 c k (some x)) uc us) : mj_W (mj_lv d) b o rt mc ms post pc lv (.inr (.inl (some x)) :: .inr (.inl (some c)) :: st) h uc us :=
  fun P hc => (show mr_putF b o rt mc ms P from hc.1 52) pc lv st h uc us i ci k c x e0 e1 e2 e3 e4 e5 e6 (k0 P hc)
theorem mj_iald {c n : Nat} {i : Int32} (e0 : decode b pc = .ok (.iaload, 1)) (e1 : (c < h.1 ∧ h.2.1 c = (1, n))) (e2 : vp_in i n) (k0 : mj_W (mj_lv d) b o rt mc ms post (pc + 1) lv (.inl (h.2.2.1 c i.toNatClampNeg) :: st) h uc us) : mj_W (mj_lv d) b o rt mc ms post pc lv (.inl i :: .inr (.inl (some c)) :: st) h uc us :=
  fun P hc => (show mr_iald b o rt mc ms P from hc.1 53) pc lv st h uc us c n i e0 e1 e2 (k0 P hc)
theorem mj_zald {c n : Nat} {i : Int32} (e0 : decode b pc = .ok (.baload, 1)) (e1 : (c < h.1 ∧ h.2.1 c = (2, n))) (e2 : vp_in i n) (k0 : mj_W (mj_lv d) b o rt mc ms post (pc + 1) lv (.inl (h.2.2.1 c i.toNatClampNeg) :: st) h uc us) : mj_W (mj_lv d) b o rt mc ms post pc lv (.inl i :: .inr (.inl (some c)) :: st) h uc us :=
  fun P hc => (show mr_zald b o rt mc ms P from hc.1 54) pc lv st h uc us c n i e0 e1 e2 (k0 P hc)
theorem mj_iast {c n : Nat} {i x : Int32} (e0 : decode b pc = .ok (.iastore, 1)) (e1 : (c < h.1 ∧ h.2.1 c = (1, n))) (e2 : vp_in i n) (k0 : mj_W (mj_lv d) b o rt mc ms post (pc + 1) lv st (h.1, h.2.1, mj_u2 h.2.2.1 c i.toNatClampNeg x, h.2.2.2) uc us) : mj_W (mj_lv d) b o rt mc ms post pc lv (.inl x :: .inl i :: .inr (.inl (some c)) :: st) h uc us :=
  fun P hc => (show mr_iast b o rt mc ms P from hc.1 55) pc lv st h uc us c n i x e0 e1 e2 (k0 P hc)
theorem mj_zast {c n : Nat} {i x : Int32} (e0 : decode b pc = .ok (.bastore, 1)) (e1 : (c < h.1 ∧ h.2.1 c = (2, n))) (e2 : vp_in i n) (e3 : narrow .boolean (.int x) = .int x) (k0 : mj_W (mj_lv d) b o rt mc ms post (pc + 1) lv st (h.1, h.2.1, mj_u2 h.2.2.1 c i.toNatClampNeg x, h.2.2.2) uc us) : mj_W (mj_lv d) b o rt mc ms post pc lv (.inl x :: .inl i :: .inr (.inl (some c)) :: st) h uc us :=
  fun P hc => (show mr_zast b o rt mc ms P from hc.1 56) pc lv st h uc us c n i x e0 e1 e2 e3 (k0 P hc)
theorem mj_aald {c n : Nat} {i : Int32} {r : Option Nat} (e0 : decode b pc = .ok (.aaload, 1)) (e1 : (c < h.1 ∧ h.2.1 c = (3, n))) (e2 : vp_in i n) (e3 : h.2.2.2 c i.toNatClampNeg = r) (k0 : mj_W (mj_lv d) b o rt mc ms post (pc + 1) lv (.inr (.inl r) :: st) h uc us) : mj_W (mj_lv d) b o rt mc ms post pc lv (.inl i :: .inr (.inl (some c)) :: st) h uc us :=
  fun P hc => (show mr_aald b o rt mc ms P from hc.1 57) pc lv st h uc us c n i r e0 e1 e2 e3 (k0 P hc)
theorem mj_alen {c t n : Nat} (e0 : decode b pc = .ok (.arraylength, 1)) (e1 : (c < h.1 ∧ h.2.1 c = (t, n))) (e2 : (0 < t ∧ t < 4)) (k0 : mj_W (mj_lv d) b o rt mc ms post (pc + 1) lv (.inl (Int32.ofNat n) :: st) h uc us) : mj_W (mj_lv d) b o rt mc ms post pc lv (.inr (.inl (some c)) :: st) h uc us :=
  fun P hc => (show mr_alen b o rt mc ms P from hc.1 58) pc lv st h uc us c t n e0 e1 e2 (k0 P hc)
theorem mj_new {i ci : Nat} (e0 : decode b pc = .ok (.new i, 3)) (e1 : pg_new o i = some ci) (e2 : uc + 1 ≤ mc) (e3 : us + pg_nf ci ≤ ms) (k0 : mj_W (mj_lv d) b o rt mc ms post (pc + 3) lv (.inr (.inl (some h.1)) :: st) (h.1 + 1, va_up h.2.1 h.1 (0, ci), va_up h.2.2.1 h.1 (fun _ => 0), va_up h.2.2.2 h.1 (fun _ => none)) (uc + 1) (us + pg_nf ci)) : mj_W (mj_lv d) b o rt mc ms post pc lv (st) h uc us :=
  fun P hc => (show mr_new b o rt mc ms P from hc.1 59) pc lv st h uc us i ci e0 e1 e2 e3 (k0 P hc)
theorem mj_newi {x : Int32} {n : Nat} (e0 : decode b pc = .ok (.newarray .int, 2)) (e1 : ¬ x < 0) (e2 : x.toNatClampNeg = n) (e3 : n ≤ 100000) (e4 : uc + 1 ≤ mc) (e5 : us + n ≤ ms) (k0 : mj_W (mj_lv d) b o rt mc ms post (pc + 2) lv (.inr (.inl (some h.1)) :: st) (h.1 + 1, va_up h.2.1 h.1 (1, n), va_up h.2.2.1 h.1 (fun _ => 0), va_up h.2.2.2 h.1 (fun _ => none)) (uc + 1) (us + n)) : mj_W (mj_lv d) b o rt mc ms post pc lv (.inl x :: st) h uc us :=
  fun P hc => (show mr_newi b o rt mc ms P from hc.1 60) pc lv st h uc us x n e0 e1 e2 e3 e4 e5 (k0 P hc)
theorem mj_newz {x : Int32} {n : Nat} (e0 : decode b pc = .ok (.newarray .boolean, 2)) (e1 : ¬ x < 0) (e2 : x.toNatClampNeg = n) (e3 : n ≤ 100000) (e4 : uc + 1 ≤ mc) (e5 : us + n ≤ ms) (k0 : mj_W (mj_lv d) b o rt mc ms post (pc + 2) lv (.inr (.inl (some h.1)) :: st) (h.1 + 1, va_up h.2.1 h.1 (2, n), va_up h.2.2.1 h.1 (fun _ => 0), va_up h.2.2.2 h.1 (fun _ => none)) (uc + 1) (us + n)) : mj_W (mj_lv d) b o rt mc ms post pc lv (.inl x :: st) h uc us :=
  fun P hc => (show mr_newz b o rt mc ms P from hc.1 61) pc lv st h uc us x n e0 e1 e2 e3 e4 e5 (k0 P hc)
theorem mj_newm {i : Nat} {x z : Int32} {n k : Nat} (e0 : decode b pc = .ok (.multianewarray i 2, 4)) (e1 : pg_gr o i = some 1) (e2 : ¬ x < 0) (e3 : ¬ z < 0) (e4 : x.toNatClampNeg = n) (e5 : z.toNatClampNeg = k) (e6 : n ≤ 100000) (e7 : k ≤ 100000) (e8 : uc + (1 + n) ≤ mc) (e9 : us + (n + n * k) ≤ ms) (k0 : mj_W (mj_lv d) b o rt mc ms post (pc + 4) lv (.inr (.inl (some h.1)) :: st) (h.1 + 1 + n, (fun c => if c = h.1 then (3, n) else if h.1 < c ∧ c ≤ h.1 + n then (1, k) else h.2.1 c), (fun c => if h.1 ≤ c ∧ c ≤ h.1 + n then (fun _ => 0) else h.2.2.1 c), (fun c => if c = h.1 then (fun j => if j < n then some (h.1 + 1 + j) else none) else h.2.2.2 c)) (uc + 1 + n) (us + n + n * k)) : mj_W (mj_lv d) b o rt mc ms post pc lv (.inl z :: .inl x :: st) h uc us :=
  fun P hc => (show mr_newm b o rt mc ms P from hc.1 62) pc lv st h uc us i x z n k e0 e1 e2 e3 e4 e5 e6 e7 e8 e9 (k0 P hc)
theorem mj_objI {i c : Nat} (e0 : decode b pc = .ok (.invokespecial i, 3)) (e1 : pg_sp o i = some 1) (e2 : Nat.ble (mj_ct st) 8 = true) (k0 : mj_W (mj_lv d) b o rt mc ms post (pc + 3) lv st h uc us) : mj_W (mj_lv d) b o rt mc ms post pc lv (.inr (.inl (some c)) :: st) h uc us :=
  fun P hc => (show mr_objI b o rt mc ms P from hc.1 63) pc lv st h uc us i c e0 e1 e2 (k0 P hc)
theorem mj_max {i : Nat} {x z : Int32} (e0 : decode b pc = .ok (.invokestatic i, 3)) (e1 : pg_sp o i = some 2) (e2 : Nat.ble (mj_ct st) 8 = true) (k0 : mj_W (mj_lv d) b o rt mc ms post (pc + 3) lv (.inl (if x < z then z else x) :: st) h uc us) : mj_W (mj_lv d) b o rt mc ms post pc lv (.inl z :: .inl x :: st) h uc us :=
  fun P hc => (show mr_max b o rt mc ms P from hc.1 64) pc lv st h uc us i x z e0 e1 e2 (k0 P hc)
theorem mj_min {i : Nat} {x z : Int32} (e0 : decode b pc = .ok (.invokestatic i, 3)) (e1 : pg_sp o i = some 3) (e2 : Nat.ble (mj_ct st) 8 = true) (k0 : mj_W (mj_lv d) b o rt mc ms post (pc + 3) lv (.inl (if z < x then z else x) :: st) h uc us) : mj_W (mj_lv d) b o rt mc ms post pc lv (.inl z :: .inl x :: st) h uc us :=
  fun P hc => (show mr_min b o rt mc ms P from hc.1 65) pc lv st h uc us i x z e0 e1 e2 (k0 P hc)
theorem mj_copy {i a0 a1 n0 n1 : Nat} {sp dp n : Int32} (e0 : decode b pc = .ok (.invokestatic i, 3)) (e1 : pg_sp o i = some 4) (e2 : (a0 < h.1 ∧ h.2.1 a0 = (1, n0))) (e3 : (a1 < h.1 ∧ h.2.1 a1 = (1, n1))) (e4 : ¬ sp < 0) (e5 : ¬ dp < 0) (e6 : ¬ n < 0) (e7 : sp.toNatClampNeg + n.toNatClampNeg ≤ n0) (e8 : dp.toNatClampNeg + n.toNatClampNeg ≤ n1) (e9 : Nat.ble (mj_ct st) 8 = true) (k0 : mj_W (mj_lv d) b o rt mc ms post (pc + 3) lv st (h.1, h.2.1, va_up h.2.2.1 a1 (va_cpy (h.2.2.1 a0) (h.2.2.1 a1) sp.toNatClampNeg dp.toNatClampNeg n.toNatClampNeg), h.2.2.2) uc us) : mj_W (mj_lv d) b o rt mc ms post pc lv (.inl n :: .inl dp :: .inr (.inl (some a1)) :: .inl sp :: .inr (.inl (some a0)) :: st) h uc us :=
  fun P hc => (show mr_copy b o rt mc ms P from hc.1 66) pc lv st h uc us i a0 a1 n0 n1 sp dp n e0 e1 e2 e3 e4 e5 e6 e7 e8 e9 (k0 P hc)
theorem mj_reti {x : Int32} (e0 : decode b pc = .ok (.ireturn, 1)) (e1 : (rt = 1 ∨ (rt = 2 ∧ narrow .boolean (.int x) = .int x))) (e2 : post (some (.inl x)) h) : mj_W (mj_lv d) b o rt mc ms post pc lv ([.inl x]) h uc us :=
  fun P hc => hc.2.2.1 pc lv h uc us x e0 e1 e2
theorem mj_retv  (e0 : decode b pc = .ok (.return_, 1)) (e1 : (rt = 0 ∨ rt = 9)) (e2 : post none h) : mj_W (mj_lv d) b o rt mc ms post pc lv ([]) h uc us :=
  fun P hc => hc.2.2.2 pc lv h uc us  e0 e1 e2
theorem mj_callS {i z : Nat} (as : List mj_V) (e0 : decode b pc = .ok (.invokestatic i, 3)) (e1 : pg_mth o i = some z) (e2 : pg_kd z = 0) (e3 : (as.length = pg_na z ∧ mj_ct as = pg_na z)) (e4 : Nat.ble (mj_ct st) 8 = true) (e5 : uc + pg_mc z ≤ mc) (e6 : us + pg_ms z ≤ ms) (k : mj_lv d z as h (fun r h2 => mj_W (mj_lv d) b o rt mc ms post (pc + 3) lv (r.toList ++ st) h2 (uc + pg_mc z) (us + pg_ms z))) : mj_W (mj_lv d) b o rt mc ms post pc lv (as.reverse ++ st) h uc us :=
  fun P hc => hc.2.1.1 pc lv st h uc us i z as e0 e1 e2 e3 e4 e5 e6 (mj_lv_mono d z as h _ _ (fun _ _ hw => hw P hc) k)
theorem mj_callV {i z : Nat} (as : List mj_V) (e0 : decode b pc = .ok (.invokevirtual i, 3)) (e1 : pg_mth o i = some z) (e2 : pg_kd z = 1) (e3 : (as.length = pg_na z ∧ mj_ct as = pg_na z)) (e4 : Nat.ble (mj_ct st) 8 = true) (e5 : uc + pg_mc z ≤ mc) (e6 : us + pg_ms z ≤ ms) (e7 : (∃ c, as.head? = some (.inr (.inl (some c))) ∧ c < h.1 ∧ h.2.1 c = (0, pg_own z))) (k : mj_lv d z as h (fun r h2 => mj_W (mj_lv d) b o rt mc ms post (pc + 3) lv (r.toList ++ st) h2 (uc + pg_mc z) (us + pg_ms z))) : mj_W (mj_lv d) b o rt mc ms post pc lv (as.reverse ++ st) h uc us :=
  fun P hc => hc.2.1.2.1 pc lv st h uc us i z as e0 e1 e2 e3 e4 e5 e6 e7 (mj_lv_mono d z as h _ _ (fun _ _ hw => hw P hc) k)
theorem mj_callI {i z : Nat} (as : List mj_V) (e0 : decode b pc = .ok (.invokespecial i, 3)) (e1 : pg_mth o i = some z) (e2 : pg_kd z = 2) (e3 : (as.length = pg_na z ∧ mj_ct as = pg_na z)) (e4 : Nat.ble (mj_ct st) 8 = true) (e5 : uc + pg_mc z ≤ mc) (e6 : us + pg_ms z ≤ ms) (e7 : (∃ c, as.head? = some (.inr (.inl (some c))))) (k : mj_lv d z as h (fun r h2 => mj_W (mj_lv d) b o rt mc ms post (pc + 3) lv (r.toList ++ st) h2 (uc + pg_mc z) (us + pg_ms z))) : mj_W (mj_lv d) b o rt mc ms post pc lv (as.reverse ++ st) h uc us :=
  fun P hc => hc.2.1.2.2 pc lv st h uc us i z as e0 e1 e2 e3 e4 e5 e6 e7 (mj_lv_mono d z as h _ _ (fun _ _ hw => hw P hc) k)
end mj_rows
