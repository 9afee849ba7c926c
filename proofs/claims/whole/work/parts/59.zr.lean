-- more rows in whole numbers
def cpA (A : Nat → Nat → Int) (a0 a1 n : Nat) : Nat → Nat → Int := fun c j => if c = a1 ∧ j < n then A a0 j else A c j
theorem cpA_c {A : Nat → Nat → Int} {a0 a1 n c : Nat} (h : c ≠ a1) : cpA A a0 a1 n c = A c := by
  funext j
  exact if_neg (fun q => h q.1)
theorem cpA_in {A : Nat → Nat → Int} {a0 a1 n j : Nat} (h : j < n) : cpA A a0 a1 n a1 j = A a0 j := if_pos ⟨rfl, h⟩
theorem cpA_out {A : Nat → Nat → Int} {a0 a1 n j : Nat} (h : ¬ j < n) : cpA A a0 a1 n a1 j = A a1 j := if_neg (fun q => h q.2)
section zr_rows
variable {d : Nat} {b : ByteArray} {o rt mc ms : Nat} {post : Option mj_V → mj_H → Prop} {pc : Nat} {lv : mj_L} {st : List mj_V} {K : Nat → Nat × Nat} {A : Nat → Nat → Int} {ρ : Nat → Nat → Option Nat} {uc us : Nat}
theorem zr_max {i : Nat} {x z : Int} (e0 : decode b pc = .ok (.invokestatic i, 3)) (e1 : pg_sp o i = some 2) (e2 : Nat.ble (mj_ct st) 8 = true) (r1 : -2147483648 ≤ x ∧ x < 2147483648) (r2 : -2147483648 ≤ z ∧ z < 2147483648) (k : mj_W (mj_lv d) b o rt mc ms post (pc + 3) lv (.inl (iZ (if x < z then z else x)) :: st) (123, K, zs A, ρ) uc us) : mj_W (mj_lv d) b o rt mc ms post pc lv (.inl (iZ z) :: .inl (iZ x) :: st) (123, K, zs A, ρ) uc us := mq_max e0 e1 e2 (by
  have e : (if iZ x < iZ z then iZ z else iZ x) = iZ (if x < z then z else x) := by
    by_cases h : x < z
    · rw [if_pos h, if_pos ((iZ_lt r1 r2).mpr h)]
    · rw [if_neg h, if_neg (fun q => h ((iZ_lt r1 r2).mp q))]
  rw [e]
  exact k)
theorem zr_min {i : Nat} {x z : Int} (e0 : decode b pc = .ok (.invokestatic i, 3)) (e1 : pg_sp o i = some 3) (e2 : Nat.ble (mj_ct st) 8 = true) (r1 : -2147483648 ≤ x ∧ x < 2147483648) (r2 : -2147483648 ≤ z ∧ z < 2147483648) (k : mj_W (mj_lv d) b o rt mc ms post (pc + 3) lv (.inl (iZ (if z < x then z else x)) :: st) (123, K, zs A, ρ) uc us) : mj_W (mj_lv d) b o rt mc ms post pc lv (.inl (iZ z) :: .inl (iZ x) :: st) (123, K, zs A, ρ) uc us := mq_min e0 e1 e2 (by
  have e : (if iZ z < iZ x then iZ z else iZ x) = iZ (if z < x then z else x) := by
    by_cases h : z < x
    · rw [if_pos h, if_pos ((iZ_lt r2 r1).mpr h)]
    · rw [if_neg h, if_neg (fun q => h ((iZ_lt r2 r1).mp q))]
  rw [e]
  exact k)
theorem zr_aald (L : Lay K ρ) {c n i : Nat} (c2 : Nat) (e0 : decode b pc = .ok (.aaload, 1)) (hc : c < 123) (e3 : ly_kd c = (3, n)) (r : i < n ∧ n ≤ 40) (e4 : ly_rf c i = some c2) (k : mj_W (mj_lv d) b o rt mc ms post (pc + 1) lv (.inr (.inl (some c2)) :: st) (123, K, zs A, ρ) uc us) : mj_W (mj_lv d) b o rt mc ms post pc lv (.inl (iZ (i : Int)) :: .inr (.inl (some c)) :: st) (123, K, zs A, ρ) uc us := mq_aald e0 (lyk L hc e3) (iZ_in (by omega) (by omega) (by omega)) (by rw [iZ_clamp (by omega) (by omega), Int.toNat_natCast]; exact lyr L hc (by omega) e4) k
theorem zr_ialdV (L : Lay K ρ) {c n i : Nat} (v : Int) (e0 : decode b pc = .ok (.iaload, 1)) (hc : c < 123) (e3 : ly_kd c = (1, n)) (r : i < n ∧ n < 5000000) (e4 : A c i = v) (k : mj_W (mj_lv d) b o rt mc ms post (pc + 1) lv (.inl (iZ v) :: st) (123, K, zs A, ρ) uc us) : mj_W (mj_lv d) b o rt mc ms post pc lv (.inl (iZ (i : Int)) :: .inr (.inl (some c)) :: st) (123, K, zs A, ρ) uc us := zg_ialdN L e0 hc e3 r (by rw [e4]; exact k)
theorem zr_zaldV (L : Lay K ρ) {c n i : Nat} (v : Int) (e0 : decode b pc = .ok (.baload, 1)) (hc : c < 123) (e3 : ly_kd c = (2, n)) (r : i < n ∧ n < 5000000) (e4 : A c i = v) (k : mj_W (mj_lv d) b o rt mc ms post (pc + 1) lv (.inl (iZ v) :: st) (123, K, zs A, ρ) uc us) : mj_W (mj_lv d) b o rt mc ms post pc lv (.inl (iZ (i : Int)) :: .inr (.inl (some c)) :: st) (123, K, zs A, ρ) uc us := zg_zaldN L e0 hc e3 r (by rw [e4]; exact k)
theorem zr_idiv {x z : Int} (e0 : decode b pc = .ok (.idiv, 1)) (r1 : 0 ≤ x ∧ x < 2147483648) (r2 : 0 < z ∧ z < 2147483648) (k : mj_W (mj_lv d) b o rt mc ms post (pc + 1) lv (.inl (iZ (x / z)) :: st) (123, K, zs A, ρ) uc us) : mj_W (mj_lv d) b o rt mc ms post pc lv (.inl (iZ z) :: .inl (iZ x) :: st) (123, K, zs A, ρ) uc us := mq_idiv e0 (fun q => by
  have := (iZ_eq (a := z) (b := 0) (by omega) (by omega)).mp q
  omega) (by rw [iZ_div r1 r2]; exact k)
theorem zr_irem {x z : Int} (e0 : decode b pc = .ok (.irem, 1)) (r1 : 0 ≤ x ∧ x < 2147483648) (r2 : 0 < z ∧ z < 2147483648) (k : mj_W (mj_lv d) b o rt mc ms post (pc + 1) lv (.inl (iZ (x % z)) :: st) (123, K, zs A, ρ) uc us) : mj_W (mj_lv d) b o rt mc ms post pc lv (.inl (iZ z) :: .inl (iZ x) :: st) (123, K, zs A, ρ) uc us := mq_irem e0 (fun q => by
  have := (iZ_eq (a := z) (b := 0) (by omega) (by omega)).mp q
  omega) (by rw [iZ_div r1 r2, iZ_mul, iZ_sub, Int.mul_comm, ← Int.emod_def]; exact k)
theorem zr_ldc {i : Nat} (v : Int) (e0 : decode b pc = .ok (.ldc i, 2)) (e1 : pg_ldc o i = some (iZ v)) (k : mj_W (mj_lv d) b o rt mc ms post (pc + 2) lv (.inl (iZ v) :: st) (123, K, zs A, ρ) uc us) : mj_W (mj_lv d) b o rt mc ms post pc lv st (123, K, zs A, ρ) uc us := mq_ldc e0 e1 k
theorem zr_copy (L : Lay K ρ) {i a0 a1 n0 n1 n : Nat} (e0 : decode b pc = .ok (.invokestatic i, 3)) (e1 : pg_sp o i = some 4) (h0 : a0 < 123) (k0 : ly_kd a0 = (1, n0)) (h1 : a1 < 123) (k1 : ly_kd a1 = (1, n1)) (r : n ≤ n0 ∧ n ≤ n1 ∧ n < 5000000) (e9 : Nat.ble (mj_ct st) 8 = true) (k : mj_W (mj_lv d) b o rt mc ms post (pc + 3) lv st (123, K, zs (cpA A a0 a1 n), ρ) uc us) : mj_W (mj_lv d) b o rt mc ms post pc lv (.inl (iZ (n : Int)) :: .inl (iZ 0) :: .inr (.inl (some a1)) :: .inl (iZ 0) :: .inr (.inl (some a0)) :: st) (123, K, zs A, ρ) uc us := by
  have c0 : (iZ 0).toNatClampNeg = 0 := iZ_clamp (by decide) (by decide)
  have cn : (iZ (n : Int)).toNatClampNeg = n := by rw [iZ_clamp (by omega) (by omega), Int.toNat_natCast]
  have ng : ∀ x : Int, 0 ≤ x → x < 2147483648 → ¬ iZ x < 0 := fun x h1 h2 q => by
    have := (iZ_lt (a := x) (b := 0) (by omega) (by omega)).mp q
    omega
  refine mq_copy e0 e1 (lyk L h0 k0) (lyk L h1 k1) (ng 0 (by decide) (by decide)) (ng 0 (by decide) (by decide)) (ng n (by omega) (by omega)) (by rw [c0, cn]; omega) (by rw [c0, cn]; omega) e9 ?_
  rw [c0, cn]
  have e : va_up (zs A) a1 (va_cpy (zs A a0) (zs A a1) 0 0 n) = zs (cpA A a0 a1 n) := by
    funext c j
    unfold zs cpA va_up va_cpy
    by_cases q : c = a1
    · subst q
      by_cases q2 : j < n
      · simp [q2]
      · simp [q2]
    · simp [q]
  rw [e]
  exact k
end zr_rows
theorem rf20 {i : Nat} (h : i < 12) : ly_rf 20 i = some (21 + i) := (by decide : ∀ i, i < 12 → ly_rf 20 i = some (21 + i)) i h
theorem rf33 {i : Nat} (h : i < 12) : ly_rf 33 i = some (34 + i) := (by decide : ∀ i, i < 12 → ly_rf 33 i = some (34 + i)) i h
theorem rf48 {i : Nat} (h : i < 12) : ly_rf 48 i = some (49 + i) := (by decide : ∀ i, i < 12 → ly_rf 48 i = some (49 + i)) i h
theorem rf61 {i : Nat} (h : i < 12) : ly_rf 61 i = some (62 + i) := (by decide : ∀ i, i < 12 → ly_rf 61 i = some (62 + i)) i h
theorem kd21 {i : Nat} (h : i < 12) : ly_kd (21 + i) = (1, 24) := (by decide : ∀ i, i < 12 → ly_kd (21 + i) = (1, 24)) i h
theorem kd34 {i : Nat} (h : i < 12) : ly_kd (34 + i) = (1, 24) := (by decide : ∀ i, i < 12 → ly_kd (34 + i) = (1, 24)) i h
theorem kd49 {i : Nat} (h : i < 12) : ly_kd (49 + i) = (1, 36) := (by decide : ∀ i, i < 12 → ly_kd (49 + i) = (1, 36)) i h
theorem kd62 {i : Nat} (h : i < 12) : ly_kd (62 + i) = (1, 36) := (by decide : ∀ i, i < 12 → ly_kd (62 + i) = (1, 36)) i h
