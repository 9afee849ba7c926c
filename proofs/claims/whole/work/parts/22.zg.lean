/-- the ints of the cells as whole numbers -/
def zs (A : Nat → Nat → Int) : Nat → Nat → Int32 := fun c k => iZ (A c k)
theorem zs_u2 {A : Nat → Nat → Int} {c k : Nat} {v : Int} : mj_u2 (zs A) c k (iZ v) = zs (mj_u2 A c k v) := by
  funext a j
  unfold zs mj_u2
  by_cases h : a = c
  · subst h
    rw [va_up_self, va_up_self]
    by_cases g : j = k
    · subst g
      rw [va_up_self, va_up_self]
    · rw [va_up_ne _ _ g, va_up_ne _ _ g]
  · rw [va_up_ne _ _ h, va_up_ne _ _ h]
theorem zs_of (σ : Nat → Nat → Int32) : σ = zs (fun c k => (σ c k).toInt) := by
  funext c k
  exact iZ_of _
theorem u2_self {A : Nat → Nat → Int} {c k : Nat} {v : Int} : mj_u2 A c k v c k = v := by unfold mj_u2; rw [va_up_self, va_up_self]
theorem u2_c {A : Nat → Nat → Int} {c k a j : Nat} {v : Int} (h : a ≠ c) : mj_u2 A c k v a j = A a j := by unfold mj_u2; rw [va_up_ne _ _ h]
theorem u2_k {A : Nat → Nat → Int} {c k a j : Nat} {v : Int} (h : j ≠ k) : mj_u2 A c k v a j = A a j := by
  unfold mj_u2
  by_cases g : a = c
  · subst g
    rw [va_up_self, va_up_ne _ _ h]
  · rw [va_up_ne _ _ g]
theorem u2_at {A : Nat → Nat → Int} {c k a j : Nat} {v : Int} : mj_u2 A c k v a j = if a = c ∧ j = k then v else A a j := by
  by_cases g : a = c
  · subst g
    by_cases h : j = k
    · subst h
      rw [u2_self, if_pos ⟨rfl, rfl⟩]
    · rw [u2_k h, if_neg (fun q => h q.2)]
  · rw [u2_c g, if_neg (fun q => g q.1)]
def Lay (K : Nat → Nat × Nat) (ρ : Nat → Nat → Option Nat) : Prop := (∀ c, c < 123 → K c = ly_kd c) ∧ ∀ c, c < 123 → ∀ k, k < 40 → ρ c k = ly_rf c k
section zg_rows
variable {d : Nat} {b : ByteArray} {o rt mc ms : Nat} {post : Option mj_V → mj_H → Prop} {pc : Nat} {lv : mj_L} {st : List mj_V} {K : Nat → Nat × Nat} {A : Nat → Nat → Int} {ρ : Nat → Nat → Option Nat} {uc us : Nat}
theorem lyk (L : Lay K ρ) {c : Nat} {kd : Nat × Nat} (h : c < 123) (e : ly_kd c = kd) : c < 123 ∧ K c = kd := ⟨h, (L.1 c h).trans e⟩
theorem lyr (L : Lay K ρ) {c k : Nat} {r : Option Nat} (h : c < 123) (hk : k < 40) (e : ly_rf c k = r) : ρ c k = r := (L.2 c h k hk).trans e
theorem zg_getI (L : Lay K ρ) {i ci k c : Nat} (e0 : decode b pc = .ok (.getfield i, 3)) (e1 : pg_fld o i = some (ci, k)) (e2 : pg_fr ci k = false) (hc : c < 123) (e3 : ly_kd c = (0, ci)) (kk : mj_W (mj_lv d) b o rt mc ms post (pc + 3) lv (.inl (iZ (A c k)) :: st) (123, K, zs A, ρ) uc us) : mj_W (mj_lv d) b o rt mc ms post pc lv (.inr (.inl (some c)) :: st) (123, K, zs A, ρ) uc us := mq_getI e0 e1 e2 (lyk L hc e3) kk
theorem zg_getIe (L : Lay K ρ) {i ci k c : Nat} (v : Int) (e0 : decode b pc = .ok (.getfield i, 3)) (e1 : pg_fld o i = some (ci, k)) (e2 : pg_fr ci k = false) (hc : c < 123) (e3 : ly_kd c = (0, ci)) (e4 : A c k = v) (kk : mj_W (mj_lv d) b o rt mc ms post (pc + 3) lv (.inl (iZ v) :: st) (123, K, zs A, ρ) uc us) : mj_W (mj_lv d) b o rt mc ms post pc lv (.inr (.inl (some c)) :: st) (123, K, zs A, ρ) uc us := zg_getI L e0 e1 e2 hc e3 (by rw [e4]; exact kk)
theorem zg_getR (L : Lay K ρ) {i ci k c : Nat} (r : Nat) (e0 : decode b pc = .ok (.getfield i, 3)) (e1 : pg_fld o i = some (ci, k)) (e2 : pg_fr ci k = true) (hc : c < 123) (e3 : ly_kd c = (0, ci)) (hk : k < 40) (e4 : ly_rf c k = some r) (kk : mj_W (mj_lv d) b o rt mc ms post (pc + 3) lv (.inr (.inl (some r)) :: st) (123, K, zs A, ρ) uc us) : mj_W (mj_lv d) b o rt mc ms post pc lv (.inr (.inl (some c)) :: st) (123, K, zs A, ρ) uc us := mq_getR e0 e1 e2 (lyk L hc e3) (lyr L hc hk e4) kk
theorem zg_putI (L : Lay K ρ) {i ci k c : Nat} {v : Int} (e0 : decode b pc = .ok (.putfield i, 3)) (e1 : pg_fld o i = some (ci, k)) (e2 : pg_fr ci k = false) (e5 : pg_fin ci k = false) (e6 : pg_ty ci k = .int) (hc : c < 123) (e3 : ly_kd c = (0, ci)) (kk : mj_W (mj_lv d) b o rt mc ms post (pc + 3) lv st (123, K, zs (mj_u2 A c k v), ρ) uc us) : mj_W (mj_lv d) b o rt mc ms post pc lv (.inl (iZ v) :: .inr (.inl (some c)) :: st) (123, K, zs A, ρ) uc us := mq_putI e0 e1 e2 e5 (by rw [e6]; exact ⟨rfl, rfl⟩) (lyk L hc e3) (by rw [zs_u2]; exact kk)
theorem zb_ok {v : Int} (h : v = 0 ∨ v = 1) : narrow .boolean (.int (iZ v)) = .int (iZ v) ∧ fits .boolean (.int (iZ v)) = true := by rcases h with rfl | rfl <;> exact ⟨rfl, rfl⟩
theorem zg_putZ (L : Lay K ρ) {i ci k c : Nat} {v : Int} (e0 : decode b pc = .ok (.putfield i, 3)) (e1 : pg_fld o i = some (ci, k)) (e2 : pg_fr ci k = false) (e5 : pg_fin ci k = false) (e6 : pg_ty ci k = .boolean) (hv : v = 0 ∨ v = 1) (hc : c < 123) (e3 : ly_kd c = (0, ci)) (kk : mj_W (mj_lv d) b o rt mc ms post (pc + 3) lv st (123, K, zs (mj_u2 A c k v), ρ) uc us) : mj_W (mj_lv d) b o rt mc ms post pc lv (.inl (iZ v) :: .inr (.inl (some c)) :: st) (123, K, zs A, ρ) uc us := mq_putI e0 e1 e2 e5 (by rw [e6]; exact zb_ok hv) (lyk L hc e3) (by rw [zs_u2]; exact kk)
theorem zg_iald (L : Lay K ρ) {c n : Nat} {i : Int} (e0 : decode b pc = .ok (.iaload, 1)) (hc : c < 123) (e3 : ly_kd c = (1, n)) (r : 0 ≤ i ∧ i < n ∧ n < 5000000) (k : mj_W (mj_lv d) b o rt mc ms post (pc + 1) lv (.inl (iZ (A c i.toNat)) :: st) (123, K, zs A, ρ) uc us) : mj_W (mj_lv d) b o rt mc ms post pc lv (.inl (iZ i) :: .inr (.inl (some c)) :: st) (123, K, zs A, ρ) uc us := mq_iald e0 (lyk L hc e3) (iZ_in r.1 r.2.1 (by omega)) (by rw [iZ_clamp r.1 (by omega)]; exact k)
theorem zg_zald (L : Lay K ρ) {c n : Nat} {i : Int} (e0 : decode b pc = .ok (.baload, 1)) (hc : c < 123) (e3 : ly_kd c = (2, n)) (r : 0 ≤ i ∧ i < n ∧ n < 5000000) (k : mj_W (mj_lv d) b o rt mc ms post (pc + 1) lv (.inl (iZ (A c i.toNat)) :: st) (123, K, zs A, ρ) uc us) : mj_W (mj_lv d) b o rt mc ms post pc lv (.inl (iZ i) :: .inr (.inl (some c)) :: st) (123, K, zs A, ρ) uc us := mq_zald e0 (lyk L hc e3) (iZ_in r.1 r.2.1 (by omega)) (by rw [iZ_clamp r.1 (by omega)]; exact k)
theorem zg_ialde (L : Lay K ρ) {c n : Nat} {i : Int} (v : Int) (e0 : decode b pc = .ok (.iaload, 1)) (hc : c < 123) (e3 : ly_kd c = (1, n)) (r : 0 ≤ i ∧ i < n ∧ n < 5000000) (e4 : A c i.toNat = v) (k : mj_W (mj_lv d) b o rt mc ms post (pc + 1) lv (.inl (iZ v) :: st) (123, K, zs A, ρ) uc us) : mj_W (mj_lv d) b o rt mc ms post pc lv (.inl (iZ i) :: .inr (.inl (some c)) :: st) (123, K, zs A, ρ) uc us := zg_iald L e0 hc e3 r (by rw [e4]; exact k)
theorem zg_zalde (L : Lay K ρ) {c n : Nat} {i : Int} (v : Int) (e0 : decode b pc = .ok (.baload, 1)) (hc : c < 123) (e3 : ly_kd c = (2, n)) (r : 0 ≤ i ∧ i < n ∧ n < 5000000) (e4 : A c i.toNat = v) (k : mj_W (mj_lv d) b o rt mc ms post (pc + 1) lv (.inl (iZ v) :: st) (123, K, zs A, ρ) uc us) : mj_W (mj_lv d) b o rt mc ms post pc lv (.inl (iZ i) :: .inr (.inl (some c)) :: st) (123, K, zs A, ρ) uc us := zg_zald L e0 hc e3 r (by rw [e4]; exact k)
theorem zg_iast (L : Lay K ρ) {c n : Nat} {i v : Int} (e0 : decode b pc = .ok (.iastore, 1)) (hc : c < 123) (e3 : ly_kd c = (1, n)) (r : 0 ≤ i ∧ i < n ∧ n < 5000000) (k : mj_W (mj_lv d) b o rt mc ms post (pc + 1) lv st (123, K, zs (mj_u2 A c i.toNat v), ρ) uc us) : mj_W (mj_lv d) b o rt mc ms post pc lv (.inl (iZ v) :: .inl (iZ i) :: .inr (.inl (some c)) :: st) (123, K, zs A, ρ) uc us := mq_iast e0 (lyk L hc e3) (iZ_in r.1 r.2.1 (by omega)) (by rw [iZ_clamp r.1 (by omega), zs_u2]; exact k)
theorem zg_zast (L : Lay K ρ) {c n : Nat} {i v : Int} (e0 : decode b pc = .ok (.bastore, 1)) (hc : c < 123) (e3 : ly_kd c = (2, n)) (r : 0 ≤ i ∧ i < n ∧ n < 5000000) (hv : v = 0 ∨ v = 1) (k : mj_W (mj_lv d) b o rt mc ms post (pc + 1) lv st (123, K, zs (mj_u2 A c i.toNat v), ρ) uc us) : mj_W (mj_lv d) b o rt mc ms post pc lv (.inl (iZ v) :: .inl (iZ i) :: .inr (.inl (some c)) :: st) (123, K, zs A, ρ) uc us := mq_zast e0 (lyk L hc e3) (iZ_in r.1 r.2.1 (by omega)) (zb_ok hv).1 (by rw [iZ_clamp r.1 (by omega), zs_u2]; exact k)
theorem zg_reti {v : Int} (e0 : decode b pc = .ok (.ireturn, 1)) (e1 : rt = 1) (k : post (some (.inl (iZ v))) (123, K, zs A, ρ)) : mj_W (mj_lv d) b o rt mc ms post pc lv [.inl (iZ v)] (123, K, zs A, ρ) uc us := mj_reti e0 (Or.inl e1) k
theorem zg_retz {v : Int} (e0 : decode b pc = .ok (.ireturn, 1)) (e1 : rt = 2) (hv : v = 0 ∨ v = 1) (k : post (some (.inl (iZ v))) (123, K, zs A, ρ)) : mj_W (mj_lv d) b o rt mc ms post pc lv [.inl (iZ v)] (123, K, zs A, ρ) uc us := mj_reti e0 (Or.inr ⟨e1, (zb_ok hv).1⟩) k
theorem zg_retv (e0 : decode b pc = .ok (.return_, 1)) (e1 : rt = 0 ∨ rt = 9) (k : post none (123, K, zs A, ρ)) : mj_W (mj_lv d) b o rt mc ms post pc lv [] (123, K, zs A, ρ) uc us := mj_retv e0 e1 k
theorem zg_callV {i z c : Nat} (L : Lay K ρ) (w : List mj_V) (e0 : decode b pc = .ok (.invokevirtual i, 3)) (e1 : pg_mth o i = some z) (e2 : pg_kd z = 1) (e3 : (.inr (.inl (some c)) :: w : List mj_V).length = pg_na z ∧ mj_ct (.inr (.inl (some c)) :: w) = pg_na z) (e4 : Nat.ble (mj_ct st) 8 = true) (e5 : pg_mc z = 0 ∧ pg_ms z = 0) (hu : uc ≤ mc ∧ us ≤ ms) (hc : c < 123) (e6 : ly_kd c = (0, pg_own z)) (k : mj_lv d z (.inr (.inl (some c)) :: w) (123, K, zs A, ρ) (fun r h2 => mj_W (mj_lv d) b o rt mc ms post (pc + 3) lv (r.toList ++ st) h2 uc us)) : mj_W (mj_lv d) b o rt mc ms post pc lv ((.inr (.inl (some c)) :: w : List mj_V).reverse ++ st) (123, K, zs A, ρ) uc us := mj_callV (.inr (.inl (some c)) :: w) e0 e1 e2 e3 e4 (by rw [e5.1]; exact hu.1) (by rw [e5.2]; exact hu.2) ⟨c, rfl, lyk L hc e6⟩ (by rw [e5.1, e5.2]; exact k)
theorem zg_callS {i z : Nat} (w : List mj_V) (e0 : decode b pc = .ok (.invokestatic i, 3)) (e1 : pg_mth o i = some z) (e2 : pg_kd z = 0) (e3 : w.length = pg_na z ∧ mj_ct w = pg_na z) (e4 : Nat.ble (mj_ct st) 8 = true) (e5 : pg_mc z = 0 ∧ pg_ms z = 0) (hu : uc ≤ mc ∧ us ≤ ms) (k : mj_lv d z w (123, K, zs A, ρ) (fun r h2 => mj_W (mj_lv d) b o rt mc ms post (pc + 3) lv (r.toList ++ st) h2 uc us)) : mj_W (mj_lv d) b o rt mc ms post pc lv (w.reverse ++ st) (123, K, zs A, ρ) uc us := mj_callS w e0 e1 e2 e3 e4 (by rw [e5.1]; exact hu.1) (by rw [e5.2]; exact hu.2) (by rw [e5.1, e5.2]; exact k)
end zg_rows
