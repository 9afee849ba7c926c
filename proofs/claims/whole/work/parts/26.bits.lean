theorem zx_and (a b : Nat) : nI a &&& nI b = nI (a &&& b) := by
  apply Int32.toBitVec_inj.1
  show BitVec.ofNat 32 a &&& BitVec.ofNat 32 b = BitVec.ofNat 32 (a &&& b)
  apply BitVec.eq_of_getLsbD_eq
  intro i hi
  simp [hi]
theorem zx_or (a b : Nat) : nI a ||| nI b = nI (a ||| b) := by
  apply Int32.toBitVec_inj.1
  show BitVec.ofNat 32 a ||| BitVec.ofNat 32 b = BitVec.ofNat 32 (a ||| b)
  apply BitVec.eq_of_getLsbD_eq
  intro i hi
  simp [hi]
theorem zx_xor (a b : Nat) : nI a ^^^ nI b = nI (a ^^^ b) := by
  apply Int32.toBitVec_inj.1
  show BitVec.ofNat 32 a ^^^ BitVec.ofNat 32 b = BitVec.ofNat 32 (a ^^^ b)
  apply BitVec.eq_of_getLsbD_eq
  intro i hi
  simp [hi]
theorem zx_sl : ∀ n, n < 32 → ((nI n &&& 31).toBitVec.smod 32).toNat = n := by decide +kernel
theorem zx_shl {a k : Nat} (hk : k < 32) (h : a * 2 ^ k < 2 ^ 32) : nI a <<< (nI k &&& 31) = nI (a * 2 ^ k) := pk_shlN _ k (zx_sl k hk) h
theorem zx_shr {a k : Nat} (hk : k < 32) (h : a < 2 ^ 31) : nI a >>> (nI k &&& 31) = nI (a / 2 ^ k) := pk_shrN h _ k (zx_sl k hk)
theorem iZ_nat {x : Int} (h : 0 ≤ x) : iZ x = nI x.toNat := by
  rw [← iZ_nI, Int.toNat_of_nonneg h]
/-- a and not b: what a has more than b -/
theorem zx_andn (a b : Nat) : nI a &&& (nI b ^^^ (-1)) = nI (a ^^^ (a &&& b)) := by
  rw [← zx_xor, ← zx_and]
  apply Int32.toBitVec_inj.1
  apply BitVec.eq_of_getLsbD_eq
  intro i hi
  have h1 : (-1 : Int32).toBitVec.getLsbD i = true := (by decide +kernel : ∀ i, i < 32 → (-1 : Int32).toBitVec.getLsbD i = true) i hi
  rw [Int32.toBitVec_and, Int32.toBitVec_xor, Int32.toBitVec_xor, Int32.toBitVec_and, BitVec.getLsbD_and, BitVec.getLsbD_xor, BitVec.getLsbD_xor, BitVec.getLsbD_and, h1]
  cases (nI a).toBitVec.getLsbD i <;> cases (nI b).toBitVec.getLsbD i <;> rfl
theorem tb_div (a k : Nat) : (a / 2 ^ k) &&& 1 = if a.testBit k = true then 1 else 0 := by
  rw [Nat.and_one_is_mod, Nat.testBit_eq_decide_div_mod_eq]
  by_cases h : a / 2 ^ k % 2 = 1
  · simp [h]
  · have : a / 2 ^ k % 2 = 0 := by omega
    simp [this]
section zb_rows
variable {d : Nat} {b : ByteArray} {o rt mc ms : Nat} {post : Option mj_V → mj_H → Prop} {pc : Nat} {lv : mj_L} {st : List mj_V} {nn : Nat} {K : Nat → Nat × Nat} {σ : Nat → Nat → Int32} {ρ : Nat → Nat → Option Nat} {uc us : Nat}
theorem zb_iand {x z : Int} (e0 : decode b pc = .ok (.iand, 1)) (r : 0 ≤ x ∧ 0 ≤ z) (k : mj_W (mj_lv d) b o rt mc ms post (pc + 1) lv (.inl (iZ ((x.toNat &&& z.toNat : Nat) : Int)) :: st) (nn, K, σ, ρ) uc us) : mj_W (mj_lv d) b o rt mc ms post pc lv (.inl (iZ z) :: .inl (iZ x) :: st) (nn, K, σ, ρ) uc us := mq_iand e0 (by rw [iZ_nat r.1, iZ_nat r.2, zx_and, ← iZ_nI]; exact k)
theorem zb_ior {x z : Int} (e0 : decode b pc = .ok (.ior, 1)) (r : 0 ≤ x ∧ 0 ≤ z) (k : mj_W (mj_lv d) b o rt mc ms post (pc + 1) lv (.inl (iZ ((x.toNat ||| z.toNat : Nat) : Int)) :: st) (nn, K, σ, ρ) uc us) : mj_W (mj_lv d) b o rt mc ms post pc lv (.inl (iZ z) :: .inl (iZ x) :: st) (nn, K, σ, ρ) uc us := mq_ior e0 (by rw [iZ_nat r.1, iZ_nat r.2, zx_or, ← iZ_nI]; exact k)
theorem zb_ixor {x z : Int} (e0 : decode b pc = .ok (.ixor, 1)) (r : 0 ≤ x ∧ 0 ≤ z) (k : mj_W (mj_lv d) b o rt mc ms post (pc + 1) lv (.inl (iZ ((x.toNat ^^^ z.toNat : Nat) : Int)) :: st) (nn, K, σ, ρ) uc us) : mj_W (mj_lv d) b o rt mc ms post pc lv (.inl (iZ z) :: .inl (iZ x) :: st) (nn, K, σ, ρ) uc us := mq_ixor e0 (by rw [iZ_nat r.1, iZ_nat r.2, zx_xor, ← iZ_nI]; exact k)
theorem zb_ishl {x z : Int} (e0 : decode b pc = .ok (.ishl, 1)) (r : 0 ≤ x ∧ 0 ≤ z ∧ z < 32) (r2 : x.toNat * 2 ^ z.toNat < 2 ^ 32) (k : mj_W (mj_lv d) b o rt mc ms post (pc + 1) lv (.inl (iZ ((x.toNat * 2 ^ z.toNat : Nat) : Int)) :: st) (nn, K, σ, ρ) uc us) : mj_W (mj_lv d) b o rt mc ms post pc lv (.inl (iZ z) :: .inl (iZ x) :: st) (nn, K, σ, ρ) uc us := mq_ishl e0 (by rw [iZ_nat r.1, iZ_nat r.2.1, zx_shl (by omega) r2, ← iZ_nI]; exact k)
theorem zb_ishr {x z : Int} (e0 : decode b pc = .ok (.ishr, 1)) (r : 0 ≤ x ∧ x < 2147483648 ∧ 0 ≤ z ∧ z < 32) (k : mj_W (mj_lv d) b o rt mc ms post (pc + 1) lv (.inl (iZ ((x.toNat / 2 ^ z.toNat : Nat) : Int)) :: st) (nn, K, σ, ρ) uc us) : mj_W (mj_lv d) b o rt mc ms post pc lv (.inl (iZ z) :: .inl (iZ x) :: st) (nn, K, σ, ρ) uc us := mq_ishr e0 (by rw [iZ_nat r.1, iZ_nat r.2.2.1, zx_shr (by omega) (by omega), ← iZ_nI]; exact k)
end zb_rows
/-- A, but v in the first i places of cell c -/
def fl (A : Nat → Nat → Int) (c i : Nat) (v : Int) : Nat → Nat → Int := fun a j => if a = c ∧ j < i then v else A a j
theorem fl_0 {A : Nat → Nat → Int} {c : Nat} {v : Int} : fl A c 0 v = A := by
  funext a j
  unfold fl
  rw [if_neg (by omega)]
theorem fl_s {A : Nat → Nat → Int} {c i : Nat} {v : Int} : mj_u2 (fl A c i v) c i v = fl A c (i + 1) v := by
  funext a j
  rw [u2_at]
  unfold fl
  by_cases h : a = c ∧ j = i
  · rw [if_pos h, if_pos (by omega)]
  · rw [if_neg h]
    by_cases h2 : a = c ∧ j < i
    · rw [if_pos h2, if_pos (by omega)]
    · rw [if_neg h2, if_neg (by omega)]
section sp_fill
variable {d : Nat} {post : Option mj_V → mj_H → Prop} {K : Nat → Nat × Nat} {A : Nat → Nat → Int} {ρ : Nat → Nat → Option Nat}
theorem fill_loop (L : Lay K ρ) {c n : Nat} (hc : c < 123) (hk : ly_kd c = (1, n)) (hn : n ≤ 5000) {v : Int} (k : post none (123, K, zs (fl A c n v), ρ)) : ∀ (j i : Nat), n - i < j → i ≤ n → mj_W (mj_lv d) prog_14_method_103_code 12 0 0 0 post 5 [some (.inr (.inl (some c))), some (.inl (iZ v)), some (.inl (iZ (i : Int))), some (.inl (iZ (n : Int)))] [] (123, K, zs (fl A c i v), ρ) 0 0
  | 0, i, h, _ => absurd h (by omega)
  | j + 1, i, h, hi => by
    refine mq_iload_n d141_5 rfl rfl ?_
    refine mq_iload_n d141_6 rfl rfl ?_
    refine zq_icmp_ge (tgt := 20) d141_7 (by decide) (by omega) (by omega) (fun g => ?_) (fun g => ?_)
    · have e : i = n := by omega
      subst e
      exact zg_retv d141_20 (by decide) k
    · refine mq_aload_n d141_10 rfl rfl ?_
      refine mq_iload_n d141_11 rfl rfl ?_
      refine mq_iload_n d141_12 rfl rfl ?_
      refine zg_iast L d141_13 hc hk (by omega) ?_
      rw [Int.toNat_natCast, fl_s]
      refine zq_iinc d141_14 rfl rfl ?_
      refine mq_goto (tgt := 5) d141_17 (by decide) ?_
      exact fill_loop L hc hk hn k j (i + 1) (by omega) (by omega)
theorem s_fill (L : Lay K ρ) {c n : Nat} (hc : c < 123) (hk : ly_kd c = (1, n)) (hn : n ≤ 5000) {v : Int} (k : post none (123, K, zs (fl A c n v), ρ)) : mj_lv (d + 1) m_Arrays_fill [.inr (.inl (some c)), .inl (iZ v)] (123, K, zs A, ρ) post := by
  show mj_W (mj_lv d) prog_14_method_103_code 12 0 0 0 post 0 [some (.inr (.inl (some c))), some (.inl (iZ v)), none, none] [] (123, K, zs A, ρ) 0 0
  refine zq_iconst d141_0 ?_
  refine mq_istore_n d141_1 rfl (Nat.le_of_ble_eq_true rfl) rfl ?_
  refine mq_aload_n d141_2 rfl rfl ?_
  refine mq_alen (t := 1) (n := n) d141_3 (lyk L hc hk) ⟨by decide, by decide⟩ ?_
  refine mq_istore_n d141_4 rfl (Nat.le_of_ble_eq_true rfl) rfl ?_
  have := fill_loop (d := d) (A := A) L hc hk hn k (n + 1) 0 (by omega) (by omega)
  rw [fl_0] at this
  exact this
end sp_fill
