section mq_rows
variable {d : Nat} {b : ByteArray} {o rt mc ms : Nat} {post : Option mj_V → mj_H → Prop} {pc : Nat} {lv : mj_L} {st : List mj_V} {nn : Nat} {K : Nat → Nat × Nat} {σ : Nat → Nat → Int32} {ρ : Nat → Nat → Option Nat} {uc us : Nat}
theorem mq_iconst {i : Int} {v : Int32} (e0 : decode b pc = .ok (.iconst i, 1)) (e1 : Int32.ofInt i = v) (k0 : mj_W (mj_lv d) b o rt mc ms post (pc + 1) lv (.inl v :: st) (nn, K, σ, ρ) uc us) : mj_W (mj_lv d) b o rt mc ms post pc lv (st) (nn, K, σ, ρ) uc us :=
  mj_iconst (h := (nn, K, σ, ρ)) e0 e1 k0
theorem mq_bipush {i : Int} {v : Int32} (e0 : decode b pc = .ok (.bipush i, 2)) (e1 : (Int8.ofInt i).toInt32 = v) (k0 : mj_W (mj_lv d) b o rt mc ms post (pc + 2) lv (.inl v :: st) (nn, K, σ, ρ) uc us) : mj_W (mj_lv d) b o rt mc ms post pc lv (st) (nn, K, σ, ρ) uc us :=
  mj_bipush (h := (nn, K, σ, ρ)) e0 e1 k0
theorem mq_sipush {i : Int} {v : Int32} (e0 : decode b pc = .ok (.sipush i, 3)) (e1 : (Int16.ofInt i).toInt32 = v) (k0 : mj_W (mj_lv d) b o rt mc ms post (pc + 3) lv (.inl v :: st) (nn, K, σ, ρ) uc us) : mj_W (mj_lv d) b o rt mc ms post pc lv (st) (nn, K, σ, ρ) uc us :=
  mj_sipush (h := (nn, K, σ, ρ)) e0 e1 k0
theorem mq_iadd {x z : Int32} (e0 : decode b pc = .ok (.iadd, 1)) (k0 : mj_W (mj_lv d) b o rt mc ms post (pc + 1) lv (.inl (x + z) :: st) (nn, K, σ, ρ) uc us) : mj_W (mj_lv d) b o rt mc ms post pc lv (.inl z :: .inl x :: st) (nn, K, σ, ρ) uc us :=
  mj_iadd (h := (nn, K, σ, ρ)) e0 k0
theorem mq_isub {x z : Int32} (e0 : decode b pc = .ok (.isub, 1)) (k0 : mj_W (mj_lv d) b o rt mc ms post (pc + 1) lv (.inl (x - z) :: st) (nn, K, σ, ρ) uc us) : mj_W (mj_lv d) b o rt mc ms post pc lv (.inl z :: .inl x :: st) (nn, K, σ, ρ) uc us :=
  mj_isub (h := (nn, K, σ, ρ)) e0 k0
theorem mq_imul {x z : Int32} (e0 : decode b pc = .ok (.imul, 1)) (k0 : mj_W (mj_lv d) b o rt mc ms post (pc + 1) lv (.inl (x * z) :: st) (nn, K, σ, ρ) uc us) : mj_W (mj_lv d) b o rt mc ms post pc lv (.inl z :: .inl x :: st) (nn, K, σ, ρ) uc us :=
  mj_imul (h := (nn, K, σ, ρ)) e0 k0
theorem mq_iand {x z : Int32} (e0 : decode b pc = .ok (.iand, 1)) (k0 : mj_W (mj_lv d) b o rt mc ms post (pc + 1) lv (.inl (x &&& z) :: st) (nn, K, σ, ρ) uc us) : mj_W (mj_lv d) b o rt mc ms post pc lv (.inl z :: .inl x :: st) (nn, K, σ, ρ) uc us :=
  mj_iand (h := (nn, K, σ, ρ)) e0 k0
theorem mq_ior {x z : Int32} (e0 : decode b pc = .ok (.ior, 1)) (k0 : mj_W (mj_lv d) b o rt mc ms post (pc + 1) lv (.inl (x ||| z) :: st) (nn, K, σ, ρ) uc us) : mj_W (mj_lv d) b o rt mc ms post pc lv (.inl z :: .inl x :: st) (nn, K, σ, ρ) uc us :=
  mj_ior (h := (nn, K, σ, ρ)) e0 k0
theorem mq_ixor {x z : Int32} (e0 : decode b pc = .ok (.ixor, 1)) (k0 : mj_W (mj_lv d) b o rt mc ms post (pc + 1) lv (.inl (x ^^^ z) :: st) (nn, K, σ, ρ) uc us) : mj_W (mj_lv d) b o rt mc ms post pc lv (.inl z :: .inl x :: st) (nn, K, σ, ρ) uc us :=
  mj_ixor (h := (nn, K, σ, ρ)) e0 k0
theorem mq_ishl {x z : Int32} (e0 : decode b pc = .ok (.ishl, 1)) (k0 : mj_W (mj_lv d) b o rt mc ms post (pc + 1) lv (.inl (x <<< (z &&& 31)) :: st) (nn, K, σ, ρ) uc us) : mj_W (mj_lv d) b o rt mc ms post pc lv (.inl z :: .inl x :: st) (nn, K, σ, ρ) uc us :=
  mj_ishl (h := (nn, K, σ, ρ)) e0 k0
theorem mq_ishr {x z : Int32} (e0 : decode b pc = .ok (.ishr, 1)) (k0 : mj_W (mj_lv d) b o rt mc ms post (pc + 1) lv (.inl (x >>> (z &&& 31)) :: st) (nn, K, σ, ρ) uc us) : mj_W (mj_lv d) b o rt mc ms post pc lv (.inl z :: .inl x :: st) (nn, K, σ, ρ) uc us :=
  mj_ishr (h := (nn, K, σ, ρ)) e0 k0
theorem mq_iushr {x z : Int32} (e0 : decode b pc = .ok (.iushr, 1)) (k0 : mj_W (mj_lv d) b o rt mc ms post (pc + 1) lv (.inl ((x.toUInt32 >>> (z.toUInt32 &&& Int32.toUInt32 31)).toInt32) :: st) (nn, K, σ, ρ) uc us) : mj_W (mj_lv d) b o rt mc ms post pc lv (.inl z :: .inl x :: st) (nn, K, σ, ρ) uc us :=
  mj_iushr (h := (nn, K, σ, ρ)) e0 k0
theorem mq_idiv {x z : Int32} (e0 : decode b pc = .ok (.idiv, 1)) (e1 : ¬ z = 0) (k0 : mj_W (mj_lv d) b o rt mc ms post (pc + 1) lv (.inl (x / z) :: st) (nn, K, σ, ρ) uc us) : mj_W (mj_lv d) b o rt mc ms post pc lv (.inl z :: .inl x :: st) (nn, K, σ, ρ) uc us :=
  mj_idiv (h := (nn, K, σ, ρ)) e0 e1 k0
theorem mq_irem {x z : Int32} (e0 : decode b pc = .ok (.irem, 1)) (e1 : ¬ z = 0) (k0 : mj_W (mj_lv d) b o rt mc ms post (pc + 1) lv (.inl (x - x / z * z) :: st) (nn, K, σ, ρ) uc us) : mj_W (mj_lv d) b o rt mc ms post pc lv (.inl z :: .inl x :: st) (nn, K, σ, ρ) uc us :=
  mj_irem (h := (nn, K, σ, ρ)) e0 e1 k0
theorem mq_ineg {x : Int32} (e0 : decode b pc = .ok (.ineg, 1)) (k0 : mj_W (mj_lv d) b o rt mc ms post (pc + 1) lv (.inl (-x) :: st) (nn, K, σ, ρ) uc us) : mj_W (mj_lv d) b o rt mc ms post pc lv (.inl x :: st) (nn, K, σ, ρ) uc us :=
  mj_ineg (h := (nn, K, σ, ρ)) e0 k0
theorem mq_dup {v : mj_V} (e0 : decode b pc = .ok (.dup, 1)) (e1 : mj_ca v = 1) (k0 : mj_W (mj_lv d) b o rt mc ms post (pc + 1) lv (v :: v :: st) (nn, K, σ, ρ) uc us) : mj_W (mj_lv d) b o rt mc ms post pc lv (v :: st) (nn, K, σ, ρ) uc us :=
  mj_dup (h := (nn, K, σ, ρ)) e0 e1 k0
theorem mq_pop {v : mj_V} (e0 : decode b pc = .ok (.pop, 1)) (e1 : mj_ca v = 1) (k0 : mj_W (mj_lv d) b o rt mc ms post (pc + 1) lv (st) (nn, K, σ, ρ) uc us) : mj_W (mj_lv d) b o rt mc ms post pc lv (v :: st) (nn, K, σ, ρ) uc us :=
  mj_pop (h := (nn, K, σ, ρ)) e0 e1 k0
theorem mq_dup2 {v w : mj_V} (e0 : decode b pc = .ok (.dup2, 1)) (e1 : mj_ca v = 1) (e2 : mj_ca w = 1) (k0 : mj_W (mj_lv d) b o rt mc ms post (pc + 1) lv (v :: w :: v :: w :: st) (nn, K, σ, ρ) uc us) : mj_W (mj_lv d) b o rt mc ms post pc lv (v :: w :: st) (nn, K, σ, ρ) uc us :=
  mj_dup2 (h := (nn, K, σ, ρ)) e0 e1 e2 k0
theorem mq_dup_x1 {v w : mj_V} (e0 : decode b pc = .ok (.dup_x1, 1)) (e1 : mj_ca v = 1) (e2 : mj_ca w = 1) (k0 : mj_W (mj_lv d) b o rt mc ms post (pc + 1) lv (v :: w :: v :: st) (nn, K, σ, ρ) uc us) : mj_W (mj_lv d) b o rt mc ms post pc lv (v :: w :: st) (nn, K, σ, ρ) uc us :=
  mj_dup_x1 (h := (nn, K, σ, ρ)) e0 e1 e2 k0
theorem mq_lconst {f : Fin 2} {v : Int64} (e0 : decode b pc = .ok (.lconst f, 1)) (e1 : Int64.ofNat (f : Nat) = v) (k0 : mj_W (mj_lv d) b o rt mc ms post (pc + 1) lv (.inr (.inr v) :: st) (nn, K, σ, ρ) uc us) : mj_W (mj_lv d) b o rt mc ms post pc lv (st) (nn, K, σ, ρ) uc us :=
  mj_lconst (h := (nn, K, σ, ρ)) e0 e1 k0
theorem mq_lmul {x z : Int64} (e0 : decode b pc = .ok (.lmul, 1)) (k0 : mj_W (mj_lv d) b o rt mc ms post (pc + 1) lv (.inr (.inr (x * z)) :: st) (nn, K, σ, ρ) uc us) : mj_W (mj_lv d) b o rt mc ms post pc lv (.inr (.inr z) :: .inr (.inr x) :: st) (nn, K, σ, ρ) uc us :=
  mj_lmul (h := (nn, K, σ, ρ)) e0 k0
theorem mq_lcmp {x z : Int64} (e0 : decode b pc = .ok (.lcmp, 1)) (k0 : mj_W (mj_lv d) b o rt mc ms post (pc + 1) lv (.inl (lg_cmp x z) :: st) (nn, K, σ, ρ) uc us) : mj_W (mj_lv d) b o rt mc ms post pc lv (.inr (.inr z) :: .inr (.inr x) :: st) (nn, K, σ, ρ) uc us :=
  mj_lcmp (h := (nn, K, σ, ρ)) e0 k0
theorem mq_i2l {x : Int32} (e0 : decode b pc = .ok (.i2l, 1)) (k0 : mj_W (mj_lv d) b o rt mc ms post (pc + 1) lv (.inr (.inr x.toInt64) :: st) (nn, K, σ, ρ) uc us) : mj_W (mj_lv d) b o rt mc ms post pc lv (.inl x :: st) (nn, K, σ, ρ) uc us :=
  mj_i2l (h := (nn, K, σ, ρ)) e0 k0
theorem mq_icmp_eq {x z : Int32} {off : Int} {tgt : Nat} (e0 : decode b pc = .ok (.if_icmp .eq off, 3)) (e1 : (pc : Int) + off = (tgt : Int)) (k0 : (x = z → mj_W (mj_lv d) b o rt mc ms post tgt lv st (nn, K, σ, ρ) uc us)) (k1 : (¬ x = z → mj_W (mj_lv d) b o rt mc ms post (pc + 3) lv st (nn, K, σ, ρ) uc us)) : mj_W (mj_lv d) b o rt mc ms post pc lv (.inl z :: .inl x :: st) (nn, K, σ, ρ) uc us :=
  mj_icmp_eq (h := (nn, K, σ, ρ)) e0 e1 k0 k1
theorem mq_icmp_ne {x z : Int32} {off : Int} {tgt : Nat} (e0 : decode b pc = .ok (.if_icmp .ne off, 3)) (e1 : (pc : Int) + off = (tgt : Int)) (k0 : (¬ x = z → mj_W (mj_lv d) b o rt mc ms post tgt lv st (nn, K, σ, ρ) uc us)) (k1 : (x = z → mj_W (mj_lv d) b o rt mc ms post (pc + 3) lv st (nn, K, σ, ρ) uc us)) : mj_W (mj_lv d) b o rt mc ms post pc lv (.inl z :: .inl x :: st) (nn, K, σ, ρ) uc us :=
  mj_icmp_ne (h := (nn, K, σ, ρ)) e0 e1 k0 k1
theorem mq_icmp_lt {x z : Int32} {off : Int} {tgt : Nat} (e0 : decode b pc = .ok (.if_icmp .lt off, 3)) (e1 : (pc : Int) + off = (tgt : Int)) (k0 : (x < z → mj_W (mj_lv d) b o rt mc ms post tgt lv st (nn, K, σ, ρ) uc us)) (k1 : (¬ x < z → mj_W (mj_lv d) b o rt mc ms post (pc + 3) lv st (nn, K, σ, ρ) uc us)) : mj_W (mj_lv d) b o rt mc ms post pc lv (.inl z :: .inl x :: st) (nn, K, σ, ρ) uc us :=
  mj_icmp_lt (h := (nn, K, σ, ρ)) e0 e1 k0 k1
theorem mq_icmp_ge {x z : Int32} {off : Int} {tgt : Nat} (e0 : decode b pc = .ok (.if_icmp .ge off, 3)) (e1 : (pc : Int) + off = (tgt : Int)) (k0 : (z ≤ x → mj_W (mj_lv d) b o rt mc ms post tgt lv st (nn, K, σ, ρ) uc us)) (k1 : (¬ z ≤ x → mj_W (mj_lv d) b o rt mc ms post (pc + 3) lv st (nn, K, σ, ρ) uc us)) : mj_W (mj_lv d) b o rt mc ms post pc lv (.inl z :: .inl x :: st) (nn, K, σ, ρ) uc us :=
  mj_icmp_ge (h := (nn, K, σ, ρ)) e0 e1 k0 k1
theorem mq_icmp_gt {x z : Int32} {off : Int} {tgt : Nat} (e0 : decode b pc = .ok (.if_icmp .gt off, 3)) (e1 : (pc : Int) + off = (tgt : Int)) (k0 : (z < x → mj_W (mj_lv d) b o rt mc ms post tgt lv st (nn, K, σ, ρ) uc us)) (k1 : (¬ z < x → mj_W (mj_lv d) b o rt mc ms post (pc + 3) lv st (nn, K, σ, ρ) uc us)) : mj_W (mj_lv d) b o rt mc ms post pc lv (.inl z :: .inl x :: st) (nn, K, σ, ρ) uc us :=
  mj_icmp_gt (h := (nn, K, σ, ρ)) e0 e1 k0 k1
theorem mq_icmp_le {x z : Int32} {off : Int} {tgt : Nat} (e0 : decode b pc = .ok (.if_icmp .le off, 3)) (e1 : (pc : Int) + off = (tgt : Int)) (k0 : (x ≤ z → mj_W (mj_lv d) b o rt mc ms post tgt lv st (nn, K, σ, ρ) uc us)) (k1 : (¬ x ≤ z → mj_W (mj_lv d) b o rt mc ms post (pc + 3) lv st (nn, K, σ, ρ) uc us)) : mj_W (mj_lv d) b o rt mc ms post pc lv (.inl z :: .inl x :: st) (nn, K, σ, ρ) uc us :=
  mj_icmp_le (h := (nn, K, σ, ρ)) e0 e1 k0 k1
theorem mq_if_eq {x : Int32} {off : Int} {tgt : Nat} (e0 : decode b pc = .ok (.ifCond .eq off, 3)) (e1 : (pc : Int) + off = (tgt : Int)) (k0 : (x = 0 → mj_W (mj_lv d) b o rt mc ms post tgt lv st (nn, K, σ, ρ) uc us)) (k1 : (¬ x = 0 → mj_W (mj_lv d) b o rt mc ms post (pc + 3) lv st (nn, K, σ, ρ) uc us)) : mj_W (mj_lv d) b o rt mc ms post pc lv (.inl x :: st) (nn, K, σ, ρ) uc us :=
  mj_if_eq (h := (nn, K, σ, ρ)) e0 e1 k0 k1
theorem mq_if_ne {x : Int32} {off : Int} {tgt : Nat} (e0 : decode b pc = .ok (.ifCond .ne off, 3)) (e1 : (pc : Int) + off = (tgt : Int)) (k0 : (¬ x = 0 → mj_W (mj_lv d) b o rt mc ms post tgt lv st (nn, K, σ, ρ) uc us)) (k1 : (x = 0 → mj_W (mj_lv d) b o rt mc ms post (pc + 3) lv st (nn, K, σ, ρ) uc us)) : mj_W (mj_lv d) b o rt mc ms post pc lv (.inl x :: st) (nn, K, σ, ρ) uc us :=
  mj_if_ne (h := (nn, K, σ, ρ)) e0 e1 k0 k1
theorem mq_if_lt {x : Int32} {off : Int} {tgt : Nat} (e0 : decode b pc = .ok (.ifCond .lt off, 3)) (e1 : (pc : Int) + off = (tgt : Int)) (k0 : (x < 0 → mj_W (mj_lv d) b o rt mc ms post tgt lv st (nn, K, σ, ρ) uc us)) (k1 : (¬ x < 0 → mj_W (mj_lv d) b o rt mc ms post (pc + 3) lv st (nn, K, σ, ρ) uc us)) : mj_W (mj_lv d) b o rt mc ms post pc lv (.inl x :: st) (nn, K, σ, ρ) uc us :=
  mj_if_lt (h := (nn, K, σ, ρ)) e0 e1 k0 k1
theorem mq_if_ge {x : Int32} {off : Int} {tgt : Nat} (e0 : decode b pc = .ok (.ifCond .ge off, 3)) (e1 : (pc : Int) + off = (tgt : Int)) (k0 : (0 ≤ x → mj_W (mj_lv d) b o rt mc ms post tgt lv st (nn, K, σ, ρ) uc us)) (k1 : (¬ 0 ≤ x → mj_W (mj_lv d) b o rt mc ms post (pc + 3) lv st (nn, K, σ, ρ) uc us)) : mj_W (mj_lv d) b o rt mc ms post pc lv (.inl x :: st) (nn, K, σ, ρ) uc us :=
  mj_if_ge (h := (nn, K, σ, ρ)) e0 e1 k0 k1
theorem mq_if_gt {x : Int32} {off : Int} {tgt : Nat} (e0 : decode b pc = .ok (.ifCond .gt off, 3)) (e1 : (pc : Int) + off = (tgt : Int)) (k0 : (0 < x → mj_W (mj_lv d) b o rt mc ms post tgt lv st (nn, K, σ, ρ) uc us)) (k1 : (¬ 0 < x → mj_W (mj_lv d) b o rt mc ms post (pc + 3) lv st (nn, K, σ, ρ) uc us)) : mj_W (mj_lv d) b o rt mc ms post pc lv (.inl x :: st) (nn, K, σ, ρ) uc us :=
  mj_if_gt (h := (nn, K, σ, ρ)) e0 e1 k0 k1
theorem mq_if_le {x : Int32} {off : Int} {tgt : Nat} (e0 : decode b pc = .ok (.ifCond .le off, 3)) (e1 : (pc : Int) + off = (tgt : Int)) (k0 : (x ≤ 0 → mj_W (mj_lv d) b o rt mc ms post tgt lv st (nn, K, σ, ρ) uc us)) (k1 : (¬ x ≤ 0 → mj_W (mj_lv d) b o rt mc ms post (pc + 3) lv st (nn, K, σ, ρ) uc us)) : mj_W (mj_lv d) b o rt mc ms post pc lv (.inl x :: st) (nn, K, σ, ρ) uc us :=
  mj_if_le (h := (nn, K, σ, ρ)) e0 e1 k0 k1
theorem mq_goto {off : Int} {tgt : Nat} (e0 : decode b pc = .ok (.goto off, 3)) (e1 : (pc : Int) + off = (tgt : Int)) (k0 : mj_W (mj_lv d) b o rt mc ms post tgt lv st (nn, K, σ, ρ) uc us) : mj_W (mj_lv d) b o rt mc ms post pc lv (st) (nn, K, σ, ρ) uc us :=
  mj_goto (h := (nn, K, σ, ρ)) e0 e1 k0
theorem mq_iload {i : Nat} {x : Int32} (e0 : decode b pc = .ok (.iload i, 2)) (e1 : lv[i]? = some (some (.inl x))) (k0 : mj_W (mj_lv d) b o rt mc ms post (pc + 2) lv (.inl x :: st) (nn, K, σ, ρ) uc us) : mj_W (mj_lv d) b o rt mc ms post pc lv (st) (nn, K, σ, ρ) uc us :=
  mj_iload (h := (nn, K, σ, ρ)) e0 e1 k0
theorem mq_iload_n {f : Fin 4} {i : Nat} {x : Int32} (e0 : decode b pc = .ok (.iload_n f, 1)) (e1 : (f : Nat) = i) (e2 : lv[i]? = some (some (.inl x))) (k0 : mj_W (mj_lv d) b o rt mc ms post (pc + 1) lv (.inl x :: st) (nn, K, σ, ρ) uc us) : mj_W (mj_lv d) b o rt mc ms post pc lv (st) (nn, K, σ, ρ) uc us :=
  mj_iload_n (h := (nn, K, σ, ρ)) e0 e1 e2 k0
theorem mq_aload {i : Nat} {x : Nat} (e0 : decode b pc = .ok (.aload i, 2)) (e1 : lv[i]? = some (some (.inr (.inl (some x))))) (k0 : mj_W (mj_lv d) b o rt mc ms post (pc + 2) lv (.inr (.inl (some x)) :: st) (nn, K, σ, ρ) uc us) : mj_W (mj_lv d) b o rt mc ms post pc lv (st) (nn, K, σ, ρ) uc us :=
  mj_aload (h := (nn, K, σ, ρ)) e0 e1 k0
theorem mq_aload_n {f : Fin 4} {i : Nat} {x : Nat} (e0 : decode b pc = .ok (.aload_n f, 1)) (e1 : (f : Nat) = i) (e2 : lv[i]? = some (some (.inr (.inl (some x))))) (k0 : mj_W (mj_lv d) b o rt mc ms post (pc + 1) lv (.inr (.inl (some x)) :: st) (nn, K, σ, ρ) uc us) : mj_W (mj_lv d) b o rt mc ms post pc lv (st) (nn, K, σ, ρ) uc us :=
  mj_aload_n (h := (nn, K, σ, ρ)) e0 e1 e2 k0
theorem mq_istore {i : Nat} {x : Int32} (e0 : decode b pc = .ok (.istore i, 2)) (e1 : i < lv.length) (e2 : mj_ok lv i = true) (k0 : mj_W (mj_lv d) b o rt mc ms post (pc + 2) (lv.set i (some (.inl x))) st (nn, K, σ, ρ) uc us) : mj_W (mj_lv d) b o rt mc ms post pc lv (.inl x :: st) (nn, K, σ, ρ) uc us :=
  mj_istore (h := (nn, K, σ, ρ)) e0 e1 e2 k0
theorem mq_istore_n {f : Fin 4} {i : Nat} {x : Int32} (e0 : decode b pc = .ok (.istore_n f, 1)) (e1 : (f : Nat) = i) (e2 : i < lv.length) (e3 : mj_ok lv i = true) (k0 : mj_W (mj_lv d) b o rt mc ms post (pc + 1) (lv.set i (some (.inl x))) st (nn, K, σ, ρ) uc us) : mj_W (mj_lv d) b o rt mc ms post pc lv (.inl x :: st) (nn, K, σ, ρ) uc us :=
  mj_istore_n (h := (nn, K, σ, ρ)) e0 e1 e2 e3 k0
theorem mq_astore {i : Nat} {x : Nat} (e0 : decode b pc = .ok (.astore i, 2)) (e1 : i < lv.length) (e2 : mj_ok lv i = true) (k0 : mj_W (mj_lv d) b o rt mc ms post (pc + 2) (lv.set i (some (.inr (.inl (some x))))) st (nn, K, σ, ρ) uc us) : mj_W (mj_lv d) b o rt mc ms post pc lv (.inr (.inl (some x)) :: st) (nn, K, σ, ρ) uc us :=
  mj_astore (h := (nn, K, σ, ρ)) e0 e1 e2 k0
theorem mq_astore_n {f : Fin 4} {i : Nat} {x : Nat} (e0 : decode b pc = .ok (.astore_n f, 1)) (e1 : (f : Nat) = i) (e2 : i < lv.length) (e3 : mj_ok lv i = true) (k0 : mj_W (mj_lv d) b o rt mc ms post (pc + 1) (lv.set i (some (.inr (.inl (some x))))) st (nn, K, σ, ρ) uc us) : mj_W (mj_lv d) b o rt mc ms post pc lv (.inr (.inl (some x)) :: st) (nn, K, σ, ρ) uc us :=
  mj_astore_n (h := (nn, K, σ, ρ)) e0 e1 e2 e3 k0
theorem mq_iinc {i : Nat} {k : Int} {x v : Int32} (e0 : decode b pc = .ok (.iinc i k, 3)) (e1 : lv[i]? = some (some (.inl x))) (e2 : x + Int32.ofInt k = v) (e3 : mj_ok lv i = true) (k0 : mj_W (mj_lv d) b o rt mc ms post (pc + 3) (lv.set i (some (.inl v))) st (nn, K, σ, ρ) uc us) : mj_W (mj_lv d) b o rt mc ms post pc lv (st) (nn, K, σ, ρ) uc us :=
  mj_iinc (h := (nn, K, σ, ρ)) e0 e1 e2 e3 k0
theorem mq_lload_n {f : Fin 4} {i : Nat} {x : Int64} (e0 : decode b pc = .ok (.lload_n f, 1)) (e1 : (f : Nat) = i) (e2 : lv[i]? = some (some (.inr (.inr x)))) (k0 : mj_W (mj_lv d) b o rt mc ms post (pc + 1) lv (.inr (.inr x) :: st) (nn, K, σ, ρ) uc us) : mj_W (mj_lv d) b o rt mc ms post pc lv (st) (nn, K, σ, ρ) uc us :=
  mj_lload_n (h := (nn, K, σ, ρ)) e0 e1 e2 k0
theorem mq_lstore_n {f : Fin 4} {i : Nat} {x : Int64} (e0 : decode b pc = .ok (.lstore_n f, 1)) (e1 : (f : Nat) = i) (e2 : i + 1 < lv.length) (e3 : mj_ok lv i = true) (k0 : mj_W (mj_lv d) b o rt mc ms post (pc + 1) ((lv.set i (some (.inr (.inr x)))).set (i + 1) none) st (nn, K, σ, ρ) uc us) : mj_W (mj_lv d) b o rt mc ms post pc lv (.inr (.inr x) :: st) (nn, K, σ, ρ) uc us :=
  mj_lstore_n (h := (nn, K, σ, ρ)) e0 e1 e2 e3 k0
theorem mq_ldc2 {i : Nat} {v : Int64} (e0 : decode b pc = .ok (.ldc2_w i, 3)) (e1 : pg_ldl o i = some v) (k0 : mj_W (mj_lv d) b o rt mc ms post (pc + 3) lv (.inr (.inr v) :: st) (nn, K, σ, ρ) uc us) : mj_W (mj_lv d) b o rt mc ms post pc lv (st) (nn, K, σ, ρ) uc us :=
  mj_ldc2 (h := (nn, K, σ, ρ)) e0 e1 k0
theorem mq_ldc {i : Nat} {v : Int32} (e0 : decode b pc = .ok (.ldc i, 2)) (e1 : pg_ldc o i = some v) (k0 : mj_W (mj_lv d) b o rt mc ms post (pc + 2) lv (.inl v :: st) (nn, K, σ, ρ) uc us) : mj_W (mj_lv d) b o rt mc ms post pc lv (st) (nn, K, σ, ρ) uc us :=
  mj_ldc (h := (nn, K, σ, ρ)) e0 e1 k0
theorem mq_getI {i ci k c : Nat} (e0 : decode b pc = .ok (.getfield i, 3)) (e1 : pg_fld o i = some (ci, k)) (e2 : pg_fr ci k = false) (e3 : (c < nn ∧ K c = (0, ci))) (k0 : mj_W (mj_lv d) b o rt mc ms post (pc + 3) lv (.inl (σ c k) :: st) (nn, K, σ, ρ) uc us) : mj_W (mj_lv d) b o rt mc ms post pc lv (.inr (.inl (some c)) :: st) (nn, K, σ, ρ) uc us :=
  mj_getI (h := (nn, K, σ, ρ)) e0 e1 e2 e3 k0
theorem mq_getR {i ci k c : Nat} {r : Option Nat} (e0 : decode b pc = .ok (.getfield i, 3)) (e1 : pg_fld o i = some (ci, k)) (e2 : pg_fr ci k = true) (e3 : (c < nn ∧ K c = (0, ci))) (e4 : ρ c k = r) (k0 : mj_W (mj_lv d) b o rt mc ms post (pc + 3) lv (.inr (.inl r) :: st) (nn, K, σ, ρ) uc us) : mj_W (mj_lv d) b o rt mc ms post pc lv (.inr (.inl (some c)) :: st) (nn, K, σ, ρ) uc us :=
  mj_getR (h := (nn, K, σ, ρ)) e0 e1 e2 e3 e4 k0
theorem mq_putI {i ci k c : Nat} {x : Int32} (e0 : decode b pc = .ok (.putfield i, 3)) (e1 : pg_fld o i = some (ci, k)) (e2 : pg_fr ci k = false) (e3 : pg_fin ci k = false) (e4 : (narrow (pg_ty ci k) (.int x) = .int x ∧ fits (pg_ty ci k) (.int x) = true)) (e5 : (c < nn ∧ K c = (0, ci))) (k0 : mj_W (mj_lv d) b o rt mc ms post (pc + 3) lv st (nn, K, mj_u2 σ c k x, ρ) uc us) : mj_W (mj_lv d) b o rt mc ms post pc lv (.inl x :: .inr (.inl (some c)) :: st) (nn, K, σ, ρ) uc us :=
  mj_putI (h := (nn, K, σ, ρ)) e0 e1 e2 e3 e4 e5 k0
theorem mq_putF {i ci k c x : Nat} (e0 : rt = 9) (e1 : decode b pc = .ok (.putfield i, 3)) (e2 : pg_fld o i = some (ci, k)) (e3 : pg_fr ci k = true) (e4 : pg_fin ci k = true) (e5 : o = ci) (e6 : (c < nn ∧ K c = (0, ci))) (k0 : mj_W (mj_lv d) b o rt mc ms post (pc + 3) lv st (nn, K, σ, mj_u2 ρ c k (some x)) uc us) : mj_W (mj_lv d) b o rt mc ms post pc lv (.inr (.inl (some x)) :: .inr (.inl (some c)) :: st) (nn, K, σ, ρ) uc us :=
  mj_putF (h := (nn, K, σ, ρ)) e0 e1 e2 e3 e4 e5 e6 k0
theorem mq_iald {c n : Nat} {i : Int32} (e0 : decode b pc = .ok (.iaload, 1)) (e1 : (c < nn ∧ K c = (1, n))) (e2 : vp_in i n) (k0 : mj_W (mj_lv d) b o rt mc ms post (pc + 1) lv (.inl (σ c i.toNatClampNeg) :: st) (nn, K, σ, ρ) uc us) : mj_W (mj_lv d) b o rt mc ms post pc lv (.inl i :: .inr (.inl (some c)) :: st) (nn, K, σ, ρ) uc us :=
  mj_iald (h := (nn, K, σ, ρ)) e0 e1 e2 k0
theorem mq_zald {c n : Nat} {i : Int32} (e0 : decode b pc = .ok (.baload, 1)) (e1 : (c < nn ∧ K c = (2, n))) (e2 : vp_in i n) (k0 : mj_W (mj_lv d) b o rt mc ms post (pc + 1) lv (.inl (σ c i.toNatClampNeg) :: st) (nn, K, σ, ρ) uc us) : mj_W (mj_lv d) b o rt mc ms post pc lv (.inl i :: .inr (.inl (some c)) :: st) (nn, K, σ, ρ) uc us :=
  mj_zald (h := (nn, K, σ, ρ)) e0 e1 e2 k0
theorem mq_iast {c n : Nat} {i x : Int32} (e0 : decode b pc = .ok (.iastore, 1)) (e1 : (c < nn ∧ K c = (1, n))) (e2 : vp_in i n) (k0 : mj_W (mj_lv d) b o rt mc ms post (pc + 1) lv st (nn, K, mj_u2 σ c i.toNatClampNeg x, ρ) uc us) : mj_W (mj_lv d) b o rt mc ms post pc lv (.inl x :: .inl i :: .inr (.inl (some c)) :: st) (nn, K, σ, ρ) uc us :=
  mj_iast (h := (nn, K, σ, ρ)) e0 e1 e2 k0
theorem mq_zast {c n : Nat} {i x : Int32} (e0 : decode b pc = .ok (.bastore, 1)) (e1 : (c < nn ∧ K c = (2, n))) (e2 : vp_in i n) (e3 : narrow .boolean (.int x) = .int x) (k0 : mj_W (mj_lv d) b o rt mc ms post (pc + 1) lv st (nn, K, mj_u2 σ c i.toNatClampNeg x, ρ) uc us) : mj_W (mj_lv d) b o rt mc ms post pc lv (.inl x :: .inl i :: .inr (.inl (some c)) :: st) (nn, K, σ, ρ) uc us :=
  mj_zast (h := (nn, K, σ, ρ)) e0 e1 e2 e3 k0
theorem mq_aald {c n : Nat} {i : Int32} {r : Option Nat} (e0 : decode b pc = .ok (.aaload, 1)) (e1 : (c < nn ∧ K c = (3, n))) (e2 : vp_in i n) (e3 : ρ c i.toNatClampNeg = r) (k0 : mj_W (mj_lv d) b o rt mc ms post (pc + 1) lv (.inr (.inl r) :: st) (nn, K, σ, ρ) uc us) : mj_W (mj_lv d) b o rt mc ms post pc lv (.inl i :: .inr (.inl (some c)) :: st) (nn, K, σ, ρ) uc us :=
  mj_aald (h := (nn, K, σ, ρ)) e0 e1 e2 e3 k0
theorem mq_alen {c t n : Nat} (e0 : decode b pc = .ok (.arraylength, 1)) (e1 : (c < nn ∧ K c = (t, n))) (e2 : (0 < t ∧ t < 4)) (k0 : mj_W (mj_lv d) b o rt mc ms post (pc + 1) lv (.inl (Int32.ofNat n) :: st) (nn, K, σ, ρ) uc us) : mj_W (mj_lv d) b o rt mc ms post pc lv (.inr (.inl (some c)) :: st) (nn, K, σ, ρ) uc us :=
  mj_alen (h := (nn, K, σ, ρ)) e0 e1 e2 k0
theorem mq_new {i ci : Nat} (e0 : decode b pc = .ok (.new i, 3)) (e1 : pg_new o i = some ci) (e2 : uc + 1 ≤ mc) (e3 : us + pg_nf ci ≤ ms) (k0 : mj_W (mj_lv d) b o rt mc ms post (pc + 3) lv (.inr (.inl (some nn)) :: st) (nn + 1, va_up K nn (0, ci), va_up σ nn (fun _ => 0), va_up ρ nn (fun _ => none)) (uc + 1) (us + pg_nf ci)) : mj_W (mj_lv d) b o rt mc ms post pc lv (st) (nn, K, σ, ρ) uc us :=
  mj_new (h := (nn, K, σ, ρ)) e0 e1 e2 e3 k0
theorem mq_newi {x : Int32} {n : Nat} (e0 : decode b pc = .ok (.newarray .int, 2)) (e1 : ¬ x < 0) (e2 : x.toNatClampNeg = n) (e3 : n ≤ 100000) (e4 : uc + 1 ≤ mc) (e5 : us + n ≤ ms) (k0 : mj_W (mj_lv d) b o rt mc ms post (pc + 2) lv (.inr (.inl (some nn)) :: st) (nn + 1, va_up K nn (1, n), va_up σ nn (fun _ => 0), va_up ρ nn (fun _ => none)) (uc + 1) (us + n)) : mj_W (mj_lv d) b o rt mc ms post pc lv (.inl x :: st) (nn, K, σ, ρ) uc us :=
  mj_newi (h := (nn, K, σ, ρ)) e0 e1 e2 e3 e4 e5 k0
theorem mq_newz {x : Int32} {n : Nat} (e0 : decode b pc = .ok (.newarray .boolean, 2)) (e1 : ¬ x < 0) (e2 : x.toNatClampNeg = n) (e3 : n ≤ 100000) (e4 : uc + 1 ≤ mc) (e5 : us + n ≤ ms) (k0 : mj_W (mj_lv d) b o rt mc ms post (pc + 2) lv (.inr (.inl (some nn)) :: st) (nn + 1, va_up K nn (2, n), va_up σ nn (fun _ => 0), va_up ρ nn (fun _ => none)) (uc + 1) (us + n)) : mj_W (mj_lv d) b o rt mc ms post pc lv (.inl x :: st) (nn, K, σ, ρ) uc us :=
  mj_newz (h := (nn, K, σ, ρ)) e0 e1 e2 e3 e4 e5 k0
theorem mq_newm {i : Nat} {x z : Int32} {n k : Nat} (e0 : decode b pc = .ok (.multianewarray i 2, 4)) (e1 : pg_gr o i = some 1) (e2 : ¬ x < 0) (e3 : ¬ z < 0) (e4 : x.toNatClampNeg = n) (e5 : z.toNatClampNeg = k) (e6 : n ≤ 100000) (e7 : k ≤ 100000) (e8 : uc + (1 + n) ≤ mc) (e9 : us + (n + n * k) ≤ ms) (k0 : mj_W (mj_lv d) b o rt mc ms post (pc + 4) lv (.inr (.inl (some nn)) :: st) (nn + 1 + n, (fun c => if c = nn then (3, n) else if nn < c ∧ c ≤ nn + n then (1, k) else K c), (fun c => if nn ≤ c ∧ c ≤ nn + n then (fun _ => 0) else σ c), (fun c => if c = nn then (fun j => if j < n then some (nn + 1 + j) else none) else ρ c)) (uc + 1 + n) (us + n + n * k)) : mj_W (mj_lv d) b o rt mc ms post pc lv (.inl z :: .inl x :: st) (nn, K, σ, ρ) uc us :=
  mj_newm (h := (nn, K, σ, ρ)) e0 e1 e2 e3 e4 e5 e6 e7 e8 e9 k0
theorem mq_objI {i c : Nat} (e0 : decode b pc = .ok (.invokespecial i, 3)) (e1 : pg_sp o i = some 1) (e2 : Nat.ble (mj_ct st) 8 = true) (k0 : mj_W (mj_lv d) b o rt mc ms post (pc + 3) lv st (nn, K, σ, ρ) uc us) : mj_W (mj_lv d) b o rt mc ms post pc lv (.inr (.inl (some c)) :: st) (nn, K, σ, ρ) uc us :=
  mj_objI (h := (nn, K, σ, ρ)) e0 e1 e2 k0
theorem mq_max {i : Nat} {x z : Int32} (e0 : decode b pc = .ok (.invokestatic i, 3)) (e1 : pg_sp o i = some 2) (e2 : Nat.ble (mj_ct st) 8 = true) (k0 : mj_W (mj_lv d) b o rt mc ms post (pc + 3) lv (.inl (if x < z then z else x) :: st) (nn, K, σ, ρ) uc us) : mj_W (mj_lv d) b o rt mc ms post pc lv (.inl z :: .inl x :: st) (nn, K, σ, ρ) uc us :=
  mj_max (h := (nn, K, σ, ρ)) e0 e1 e2 k0
theorem mq_min {i : Nat} {x z : Int32} (e0 : decode b pc = .ok (.invokestatic i, 3)) (e1 : pg_sp o i = some 3) (e2 : Nat.ble (mj_ct st) 8 = true) (k0 : mj_W (mj_lv d) b o rt mc ms post (pc + 3) lv (.inl (if z < x then z else x) :: st) (nn, K, σ, ρ) uc us) : mj_W (mj_lv d) b o rt mc ms post pc lv (.inl z :: .inl x :: st) (nn, K, σ, ρ) uc us :=
  mj_min (h := (nn, K, σ, ρ)) e0 e1 e2 k0
theorem mq_copy {i a0 a1 n0 n1 : Nat} {sp dp n : Int32} (e0 : decode b pc = .ok (.invokestatic i, 3)) (e1 : pg_sp o i = some 4) (e2 : (a0 < nn ∧ K a0 = (1, n0))) (e3 : (a1 < nn ∧ K a1 = (1, n1))) (e4 : ¬ sp < 0) (e5 : ¬ dp < 0) (e6 : ¬ n < 0) (e7 : sp.toNatClampNeg + n.toNatClampNeg ≤ n0) (e8 : dp.toNatClampNeg + n.toNatClampNeg ≤ n1) (e9 : Nat.ble (mj_ct st) 8 = true) (k0 : mj_W (mj_lv d) b o rt mc ms post (pc + 3) lv st (nn, K, va_up σ a1 (va_cpy (σ a0) (σ a1) sp.toNatClampNeg dp.toNatClampNeg n.toNatClampNeg), ρ) uc us) : mj_W (mj_lv d) b o rt mc ms post pc lv (.inl n :: .inl dp :: .inr (.inl (some a1)) :: .inl sp :: .inr (.inl (some a0)) :: st) (nn, K, σ, ρ) uc us :=
  mj_copy (h := (nn, K, σ, ρ)) e0 e1 e2 e3 e4 e5 e6 e7 e8 e9 k0
end mq_rows
def iZ (z : Int) : Int32 := Int32.ofInt z
theorem iZ_add (a b : Int) : iZ a + iZ b = iZ (a + b) := (Int32.ofInt_add a b).symm
theorem iZ_sub (a b : Int) : iZ a - iZ b = iZ (a - b) := (Int32.ofInt_sub a b).symm
theorem iZ_mul (a b : Int) : iZ a * iZ b = iZ (a * b) := (Int32.ofInt_mul a b).symm
theorem iZ_neg (a : Int) : - iZ a = iZ (-a) := (Int32.ofInt_neg a).symm
theorem iZ_toInt {a : Int} (h1 : -2147483648 ≤ a) (h2 : a < 2147483648) : (iZ a).toInt = a := Int32.toInt_ofInt_of_le h1 h2
theorem iZ_nI (n : Nat) : iZ (n : Int) = nI n := rfl
theorem iZ_of (x : Int32) : x = iZ x.toInt := (Int32.ofInt_toInt x).symm
theorem iZ_lt {a b : Int} (h1 : -2147483648 ≤ a ∧ a < 2147483648) (h2 : -2147483648 ≤ b ∧ b < 2147483648) : iZ a < iZ b ↔ a < b := by
  rw [Int32.lt_iff_toInt_lt, iZ_toInt h1.1 h1.2, iZ_toInt h2.1 h2.2]
theorem iZ_le {a b : Int} (h1 : -2147483648 ≤ a ∧ a < 2147483648) (h2 : -2147483648 ≤ b ∧ b < 2147483648) : iZ a ≤ iZ b ↔ a ≤ b := by
  rw [Int32.le_iff_toInt_le, iZ_toInt h1.1 h1.2, iZ_toInt h2.1 h2.2]
theorem iZ_eq {a b : Int} (h1 : -2147483648 ≤ a ∧ a < 2147483648) (h2 : -2147483648 ≤ b ∧ b < 2147483648) : iZ a = iZ b ↔ a = b := by
  rw [← Int32.toInt_inj, iZ_toInt h1.1 h1.2, iZ_toInt h2.1 h2.2]
theorem iZ_clamp {a : Int} (h1 : 0 ≤ a) (h2 : a < 2147483648) : (iZ a).toNatClampNeg = a.toNat := by
  show (iZ a).toInt.toNat = a.toNat
  rw [iZ_toInt (by omega) h2]
theorem iZ_in {a : Int} {n : Nat} (h1 : 0 ≤ a) (h2 : a < n) (hn : n < 2147483648) : vp_in (iZ a) n := by
  rw [vp_in_iff, iZ_toInt (by omega) (by omega)]
  exact ⟨h1, h2⟩
section zq_rows
variable {d : Nat} {b : ByteArray} {o rt mc ms : Nat} {post : Option mj_V → mj_H → Prop} {pc : Nat} {lv : mj_L} {st : List mj_V} {nn : Nat} {K : Nat → Nat × Nat} {σ : Nat → Nat → Int32} {ρ : Nat → Nat → Option Nat} {uc us : Nat}
theorem zq_iadd {x z : Int} (e0 : decode b pc = .ok (.iadd, 1)) (k : mj_W (mj_lv d) b o rt mc ms post (pc + 1) lv (.inl (iZ (x + z)) :: st) (nn, K, σ, ρ) uc us) : mj_W (mj_lv d) b o rt mc ms post pc lv (.inl (iZ z) :: .inl (iZ x) :: st) (nn, K, σ, ρ) uc us := mq_iadd e0 (by rw [iZ_add]; exact k)
theorem zq_isub {x z : Int} (e0 : decode b pc = .ok (.isub, 1)) (k : mj_W (mj_lv d) b o rt mc ms post (pc + 1) lv (.inl (iZ (x - z)) :: st) (nn, K, σ, ρ) uc us) : mj_W (mj_lv d) b o rt mc ms post pc lv (.inl (iZ z) :: .inl (iZ x) :: st) (nn, K, σ, ρ) uc us := mq_isub e0 (by rw [iZ_sub]; exact k)
theorem zq_imul {x z : Int} (e0 : decode b pc = .ok (.imul, 1)) (k : mj_W (mj_lv d) b o rt mc ms post (pc + 1) lv (.inl (iZ (x * z)) :: st) (nn, K, σ, ρ) uc us) : mj_W (mj_lv d) b o rt mc ms post pc lv (.inl (iZ z) :: .inl (iZ x) :: st) (nn, K, σ, ρ) uc us := mq_imul e0 (by rw [iZ_mul]; exact k)
theorem zq_ineg {x : Int} (e0 : decode b pc = .ok (.ineg, 1)) (k : mj_W (mj_lv d) b o rt mc ms post (pc + 1) lv (.inl (iZ (-x)) :: st) (nn, K, σ, ρ) uc us) : mj_W (mj_lv d) b o rt mc ms post pc lv (.inl (iZ x) :: st) (nn, K, σ, ρ) uc us := mq_ineg e0 (by rw [iZ_neg]; exact k)
theorem zq_iconst {i : Int} (e0 : decode b pc = .ok (.iconst i, 1)) (k : mj_W (mj_lv d) b o rt mc ms post (pc + 1) lv (.inl (iZ i) :: st) (nn, K, σ, ρ) uc us) : mj_W (mj_lv d) b o rt mc ms post pc lv st (nn, K, σ, ρ) uc us := mq_iconst e0 rfl k
theorem zq_bipush {i : Int} (e0 : decode b pc = .ok (.bipush i, 2)) (e1 : (Int8.ofInt i).toInt32 = iZ i) (k : mj_W (mj_lv d) b o rt mc ms post (pc + 2) lv (.inl (iZ i) :: st) (nn, K, σ, ρ) uc us) : mj_W (mj_lv d) b o rt mc ms post pc lv st (nn, K, σ, ρ) uc us := mq_bipush e0 e1 k
theorem zq_sipush {i : Int} (e0 : decode b pc = .ok (.sipush i, 3)) (e1 : (Int16.ofInt i).toInt32 = iZ i) (k : mj_W (mj_lv d) b o rt mc ms post (pc + 3) lv (.inl (iZ i) :: st) (nn, K, σ, ρ) uc us) : mj_W (mj_lv d) b o rt mc ms post pc lv st (nn, K, σ, ρ) uc us := mq_sipush e0 e1 k
theorem zq_icmp_eq {x z off : Int} {tgt : Nat} (e0 : decode b pc = .ok (.if_icmp .eq off, 3)) (e1 : (pc : Int) + off = (tgt : Int)) (r1 : (-2147483648 ≤ x ∧ x < 2147483648)) (r2 : (-2147483648 ≤ z ∧ z < 2147483648)) (k0 : x = z → mj_W (mj_lv d) b o rt mc ms post tgt lv st (nn, K, σ, ρ) uc us) (k1 : ¬ x = z → mj_W (mj_lv d) b o rt mc ms post (pc + 3) lv st (nn, K, σ, ρ) uc us) : mj_W (mj_lv d) b o rt mc ms post pc lv (.inl (iZ z) :: .inl (iZ x) :: st) (nn, K, σ, ρ) uc us := mq_icmp_eq e0 e1 (fun g => k0 ((iZ_eq r1 r2).mp g)) (fun g => k1 (by have := mt (iZ_eq r1 r2).mpr g; omega))
theorem zq_if_eq {x off : Int} {tgt : Nat} (e0 : decode b pc = .ok (.ifCond .eq off, 3)) (e1 : (pc : Int) + off = (tgt : Int)) (r1 : (-2147483648 ≤ x ∧ x < 2147483648)) (k0 : x = 0 → mj_W (mj_lv d) b o rt mc ms post tgt lv st (nn, K, σ, ρ) uc us) (k1 : ¬ x = 0 → mj_W (mj_lv d) b o rt mc ms post (pc + 3) lv st (nn, K, σ, ρ) uc us) : mj_W (mj_lv d) b o rt mc ms post pc lv (.inl (iZ x) :: st) (nn, K, σ, ρ) uc us := by
  have r2 : (-2147483648 : Int) ≤ 0 ∧ (0 : Int) < 2147483648 := by decide
  exact mq_if_eq e0 e1 (fun g => k0 ((iZ_eq r1 r2).mp g)) (fun g => k1 (by have := mt (iZ_eq r1 r2).mpr g; omega))
theorem zq_icmp_ne {x z off : Int} {tgt : Nat} (e0 : decode b pc = .ok (.if_icmp .ne off, 3)) (e1 : (pc : Int) + off = (tgt : Int)) (r1 : (-2147483648 ≤ x ∧ x < 2147483648)) (r2 : (-2147483648 ≤ z ∧ z < 2147483648)) (k0 : ¬ x = z → mj_W (mj_lv d) b o rt mc ms post tgt lv st (nn, K, σ, ρ) uc us) (k1 : x = z → mj_W (mj_lv d) b o rt mc ms post (pc + 3) lv st (nn, K, σ, ρ) uc us) : mj_W (mj_lv d) b o rt mc ms post pc lv (.inl (iZ z) :: .inl (iZ x) :: st) (nn, K, σ, ρ) uc us := mq_icmp_ne e0 e1 (fun g => k0 (fun q => g ((iZ_eq r1 r2).mpr q))) (fun g => k1 ((iZ_eq r1 r2).mp g))
theorem zq_if_ne {x off : Int} {tgt : Nat} (e0 : decode b pc = .ok (.ifCond .ne off, 3)) (e1 : (pc : Int) + off = (tgt : Int)) (r1 : (-2147483648 ≤ x ∧ x < 2147483648)) (k0 : ¬ x = 0 → mj_W (mj_lv d) b o rt mc ms post tgt lv st (nn, K, σ, ρ) uc us) (k1 : x = 0 → mj_W (mj_lv d) b o rt mc ms post (pc + 3) lv st (nn, K, σ, ρ) uc us) : mj_W (mj_lv d) b o rt mc ms post pc lv (.inl (iZ x) :: st) (nn, K, σ, ρ) uc us := by
  have r2 : (-2147483648 : Int) ≤ 0 ∧ (0 : Int) < 2147483648 := by decide
  exact mq_if_ne e0 e1 (fun g => k0 (fun q => g ((iZ_eq r1 r2).mpr q))) (fun g => k1 ((iZ_eq r1 r2).mp g))
theorem zq_icmp_lt {x z off : Int} {tgt : Nat} (e0 : decode b pc = .ok (.if_icmp .lt off, 3)) (e1 : (pc : Int) + off = (tgt : Int)) (r1 : (-2147483648 ≤ x ∧ x < 2147483648)) (r2 : (-2147483648 ≤ z ∧ z < 2147483648)) (k0 : x < z → mj_W (mj_lv d) b o rt mc ms post tgt lv st (nn, K, σ, ρ) uc us) (k1 : z ≤ x → mj_W (mj_lv d) b o rt mc ms post (pc + 3) lv st (nn, K, σ, ρ) uc us) : mj_W (mj_lv d) b o rt mc ms post pc lv (.inl (iZ z) :: .inl (iZ x) :: st) (nn, K, σ, ρ) uc us := mq_icmp_lt e0 e1 (fun g => k0 ((iZ_lt r1 r2).mp g)) (fun g => k1 (by have := mt (iZ_lt r1 r2).mpr g; omega))
theorem zq_if_lt {x off : Int} {tgt : Nat} (e0 : decode b pc = .ok (.ifCond .lt off, 3)) (e1 : (pc : Int) + off = (tgt : Int)) (r1 : (-2147483648 ≤ x ∧ x < 2147483648)) (k0 : x < 0 → mj_W (mj_lv d) b o rt mc ms post tgt lv st (nn, K, σ, ρ) uc us) (k1 : 0 ≤ x → mj_W (mj_lv d) b o rt mc ms post (pc + 3) lv st (nn, K, σ, ρ) uc us) : mj_W (mj_lv d) b o rt mc ms post pc lv (.inl (iZ x) :: st) (nn, K, σ, ρ) uc us := by
  have r2 : (-2147483648 : Int) ≤ 0 ∧ (0 : Int) < 2147483648 := by decide
  exact mq_if_lt e0 e1 (fun g => k0 ((iZ_lt r1 r2).mp g)) (fun g => k1 (by have := mt (iZ_lt r1 r2).mpr g; omega))
theorem zq_icmp_ge {x z off : Int} {tgt : Nat} (e0 : decode b pc = .ok (.if_icmp .ge off, 3)) (e1 : (pc : Int) + off = (tgt : Int)) (r1 : (-2147483648 ≤ x ∧ x < 2147483648)) (r2 : (-2147483648 ≤ z ∧ z < 2147483648)) (k0 : z ≤ x → mj_W (mj_lv d) b o rt mc ms post tgt lv st (nn, K, σ, ρ) uc us) (k1 : x < z → mj_W (mj_lv d) b o rt mc ms post (pc + 3) lv st (nn, K, σ, ρ) uc us) : mj_W (mj_lv d) b o rt mc ms post pc lv (.inl (iZ z) :: .inl (iZ x) :: st) (nn, K, σ, ρ) uc us := mq_icmp_ge e0 e1 (fun g => k0 ((iZ_le r2 r1).mp g)) (fun g => k1 (by have := mt (iZ_le r2 r1).mpr g; omega))
theorem zq_if_ge {x off : Int} {tgt : Nat} (e0 : decode b pc = .ok (.ifCond .ge off, 3)) (e1 : (pc : Int) + off = (tgt : Int)) (r1 : (-2147483648 ≤ x ∧ x < 2147483648)) (k0 : 0 ≤ x → mj_W (mj_lv d) b o rt mc ms post tgt lv st (nn, K, σ, ρ) uc us) (k1 : x < 0 → mj_W (mj_lv d) b o rt mc ms post (pc + 3) lv st (nn, K, σ, ρ) uc us) : mj_W (mj_lv d) b o rt mc ms post pc lv (.inl (iZ x) :: st) (nn, K, σ, ρ) uc us := by
  have r2 : (-2147483648 : Int) ≤ 0 ∧ (0 : Int) < 2147483648 := by decide
  exact mq_if_ge e0 e1 (fun g => k0 ((iZ_le r2 r1).mp g)) (fun g => k1 (by have := mt (iZ_le r2 r1).mpr g; omega))
theorem zq_icmp_gt {x z off : Int} {tgt : Nat} (e0 : decode b pc = .ok (.if_icmp .gt off, 3)) (e1 : (pc : Int) + off = (tgt : Int)) (r1 : (-2147483648 ≤ x ∧ x < 2147483648)) (r2 : (-2147483648 ≤ z ∧ z < 2147483648)) (k0 : z < x → mj_W (mj_lv d) b o rt mc ms post tgt lv st (nn, K, σ, ρ) uc us) (k1 : x ≤ z → mj_W (mj_lv d) b o rt mc ms post (pc + 3) lv st (nn, K, σ, ρ) uc us) : mj_W (mj_lv d) b o rt mc ms post pc lv (.inl (iZ z) :: .inl (iZ x) :: st) (nn, K, σ, ρ) uc us := mq_icmp_gt e0 e1 (fun g => k0 ((iZ_lt r2 r1).mp g)) (fun g => k1 (by have := mt (iZ_lt r2 r1).mpr g; omega))
theorem zq_if_gt {x off : Int} {tgt : Nat} (e0 : decode b pc = .ok (.ifCond .gt off, 3)) (e1 : (pc : Int) + off = (tgt : Int)) (r1 : (-2147483648 ≤ x ∧ x < 2147483648)) (k0 : 0 < x → mj_W (mj_lv d) b o rt mc ms post tgt lv st (nn, K, σ, ρ) uc us) (k1 : x ≤ 0 → mj_W (mj_lv d) b o rt mc ms post (pc + 3) lv st (nn, K, σ, ρ) uc us) : mj_W (mj_lv d) b o rt mc ms post pc lv (.inl (iZ x) :: st) (nn, K, σ, ρ) uc us := by
  have r2 : (-2147483648 : Int) ≤ 0 ∧ (0 : Int) < 2147483648 := by decide
  exact mq_if_gt e0 e1 (fun g => k0 ((iZ_lt r2 r1).mp g)) (fun g => k1 (by have := mt (iZ_lt r2 r1).mpr g; omega))
theorem zq_icmp_le {x z off : Int} {tgt : Nat} (e0 : decode b pc = .ok (.if_icmp .le off, 3)) (e1 : (pc : Int) + off = (tgt : Int)) (r1 : (-2147483648 ≤ x ∧ x < 2147483648)) (r2 : (-2147483648 ≤ z ∧ z < 2147483648)) (k0 : x ≤ z → mj_W (mj_lv d) b o rt mc ms post tgt lv st (nn, K, σ, ρ) uc us) (k1 : z < x → mj_W (mj_lv d) b o rt mc ms post (pc + 3) lv st (nn, K, σ, ρ) uc us) : mj_W (mj_lv d) b o rt mc ms post pc lv (.inl (iZ z) :: .inl (iZ x) :: st) (nn, K, σ, ρ) uc us := mq_icmp_le e0 e1 (fun g => k0 ((iZ_le r1 r2).mp g)) (fun g => k1 (by have := mt (iZ_le r1 r2).mpr g; omega))
theorem zq_if_le {x off : Int} {tgt : Nat} (e0 : decode b pc = .ok (.ifCond .le off, 3)) (e1 : (pc : Int) + off = (tgt : Int)) (r1 : (-2147483648 ≤ x ∧ x < 2147483648)) (k0 : x ≤ 0 → mj_W (mj_lv d) b o rt mc ms post tgt lv st (nn, K, σ, ρ) uc us) (k1 : 0 < x → mj_W (mj_lv d) b o rt mc ms post (pc + 3) lv st (nn, K, σ, ρ) uc us) : mj_W (mj_lv d) b o rt mc ms post pc lv (.inl (iZ x) :: st) (nn, K, σ, ρ) uc us := by
  have r2 : (-2147483648 : Int) ≤ 0 ∧ (0 : Int) < 2147483648 := by decide
  exact mq_if_le e0 e1 (fun g => k0 ((iZ_le r1 r2).mp g)) (fun g => k1 (by have := mt (iZ_le r1 r2).mpr g; omega))
theorem zq_iald {c n : Nat} {i v : Int} (e0 : decode b pc = .ok (.iaload, 1)) (e1 : c < nn ∧ K c = (1, n)) (r : 0 ≤ i ∧ i < n ∧ n < 2147483648) (e2 : σ c i.toNat = iZ v) (k : mj_W (mj_lv d) b o rt mc ms post (pc + 1) lv (.inl (iZ v) :: st) (nn, K, σ, ρ) uc us) : mj_W (mj_lv d) b o rt mc ms post pc lv (.inl (iZ i) :: .inr (.inl (some c)) :: st) (nn, K, σ, ρ) uc us := mq_iald e0 e1 (iZ_in r.1 r.2.1 r.2.2) (by rw [iZ_clamp r.1 (by omega), e2]; exact k)
theorem zq_zald {c n : Nat} {i v : Int} (e0 : decode b pc = .ok (.baload, 1)) (e1 : c < nn ∧ K c = (2, n)) (r : 0 ≤ i ∧ i < n ∧ n < 2147483648) (e2 : σ c i.toNat = iZ v) (k : mj_W (mj_lv d) b o rt mc ms post (pc + 1) lv (.inl (iZ v) :: st) (nn, K, σ, ρ) uc us) : mj_W (mj_lv d) b o rt mc ms post pc lv (.inl (iZ i) :: .inr (.inl (some c)) :: st) (nn, K, σ, ρ) uc us := mq_zald e0 e1 (iZ_in r.1 r.2.1 r.2.2) (by rw [iZ_clamp r.1 (by omega), e2]; exact k)
theorem zq_iast {c n : Nat} {i : Int} {x : Int32} {pc1 : Nat} (e0 : decode b pc = .ok (.iastore, 1)) (e1 : c < nn ∧ K c = (1, n)) (r : 0 ≤ i ∧ i < n ∧ n < 2147483648) (k : mj_W (mj_lv d) b o rt mc ms post pc1 lv st (nn, K, mj_u2 σ c i.toNat x, ρ) uc us) (hp : pc1 = pc + 1) : mj_W (mj_lv d) b o rt mc ms post pc lv (.inl x :: .inl (iZ i) :: .inr (.inl (some c)) :: st) (nn, K, σ, ρ) uc us := mq_iast e0 e1 (iZ_in r.1 r.2.1 r.2.2) (by rw [iZ_clamp r.1 (by omega), ← hp]; exact k)
theorem zq_zast {c n : Nat} {i : Int} {x : Int32} {pc1 : Nat} (e0 : decode b pc = .ok (.bastore, 1)) (e1 : c < nn ∧ K c = (2, n)) (r : 0 ≤ i ∧ i < n ∧ n < 2147483648) (hn : narrow .boolean (.int x) = .int x) (k : mj_W (mj_lv d) b o rt mc ms post pc1 lv st (nn, K, mj_u2 σ c i.toNat x, ρ) uc us) (hp : pc1 = pc + 1) : mj_W (mj_lv d) b o rt mc ms post pc lv (.inl x :: .inl (iZ i) :: .inr (.inl (some c)) :: st) (nn, K, σ, ρ) uc us := mq_zast e0 e1 (iZ_in r.1 r.2.1 r.2.2) hn (by rw [iZ_clamp r.1 (by omega), ← hp]; exact k)
theorem zq_getI {i ci k c : Nat} {v : Int} (e0 : decode b pc = .ok (.getfield i, 3)) (e1 : pg_fld o i = some (ci, k)) (e2 : pg_fr ci k = false) (e3 : c < nn ∧ K c = (0, ci)) (e4 : σ c k = iZ v) (kk : mj_W (mj_lv d) b o rt mc ms post (pc + 3) lv (.inl (iZ v) :: st) (nn, K, σ, ρ) uc us) : mj_W (mj_lv d) b o rt mc ms post pc lv (.inr (.inl (some c)) :: st) (nn, K, σ, ρ) uc us := mq_getI e0 e1 e2 e3 (by rw [e4]; exact kk)
theorem zq_iinc {i : Nat} {k v : Int} (e0 : decode b pc = .ok (.iinc i k, 3)) (e1 : lv[i]? = some (some (.inl (iZ v)))) (e2 : mj_ok lv i = true) (kk : mj_W (mj_lv d) b o rt mc ms post (pc + 3) (lv.set i (some (.inl (iZ (v + k))))) st (nn, K, σ, ρ) uc us) : mj_W (mj_lv d) b o rt mc ms post pc lv st (nn, K, σ, ρ) uc us := mq_iinc e0 e1 (iZ_add v k) e2 kk
end zq_rows
