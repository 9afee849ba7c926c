/-- B is A but in the cells of cs -/
def eo (cs : List Nat) (A B : Nat → Nat → Int) : Prop := ∀ c, cs.elem c = false → B c = A c
theorem eo_refl {cs : List Nat} {A : Nat → Nat → Int} : eo cs A A := fun _ _ => rfl
theorem eo_trans {cs : List Nat} {A B C : Nat → Nat → Int} (h : eo cs A B) (h2 : eo cs B C) : eo cs A C := fun c hc => (h2 c hc).trans (h c hc)
theorem eo_mono {cs cs2 : List Nat} {A B : Nat → Nat → Int} (q : cs.all (fun c => cs2.elem c) = true) (h : eo cs A B) : eo cs2 A B := fun c hc => h c (by
  cases g : cs.elem c with
  | false => rfl
  | true =>
    have h1 := List.all_eq_true.mp q c (List.elem_iff.mp g)
    rw [h1] at hc
    exact absurd hc (by decide))
theorem u2_cell {A : Nat → Nat → Int} {c k a : Nat} {v : Int} (h : a ≠ c) : mj_u2 A c k v a = A a := by
  funext j
  exact u2_c h
theorem eo_u2 {cs : List Nat} {A B : Nat → Nat → Int} {c k : Nat} {v : Int} (hc : cs.elem c = true) (h : eo cs A B) : eo cs A (mj_u2 B c k v) := fun a ha => by
  have : a ≠ c := fun q => by rw [q, hc] at ha; exact absurd ha (by decide)
  rw [u2_cell this, h a ha]
theorem eo_of {cs : List Nat} {A B : Nat → Nat → Int} (h : ∀ c k, cs.elem c = false → B c k = A c k) : eo cs A B := fun c hc => funext (fun k => h c k hc)
section zgN_rows
variable {d : Nat} {b : ByteArray} {o rt mc ms : Nat} {post : Option mj_V → mj_H → Prop} {pc : Nat} {lv : mj_L} {st : List mj_V} {K : Nat → Nat × Nat} {A : Nat → Nat → Int} {ρ : Nat → Nat → Option Nat} {uc us : Nat}
theorem zg_ialdN (L : Lay K ρ) {c n i : Nat} (e0 : decode b pc = .ok (.iaload, 1)) (hc : c < 123) (e3 : ly_kd c = (1, n)) (r : i < n ∧ n < 5000000) (k : mj_W (mj_lv d) b o rt mc ms post (pc + 1) lv (.inl (iZ (A c i)) :: st) (123, K, zs A, ρ) uc us) : mj_W (mj_lv d) b o rt mc ms post pc lv (.inl (iZ (i : Int)) :: .inr (.inl (some c)) :: st) (123, K, zs A, ρ) uc us := zg_iald L e0 hc e3 (by omega) (by rw [Int.toNat_natCast]; exact k)
theorem zg_zaldN (L : Lay K ρ) {c n i : Nat} (e0 : decode b pc = .ok (.baload, 1)) (hc : c < 123) (e3 : ly_kd c = (2, n)) (r : i < n ∧ n < 5000000) (k : mj_W (mj_lv d) b o rt mc ms post (pc + 1) lv (.inl (iZ (A c i)) :: st) (123, K, zs A, ρ) uc us) : mj_W (mj_lv d) b o rt mc ms post pc lv (.inl (iZ (i : Int)) :: .inr (.inl (some c)) :: st) (123, K, zs A, ρ) uc us := zg_zald L e0 hc e3 (by omega) (by rw [Int.toNat_natCast]; exact k)
theorem zg_iastN (L : Lay K ρ) {c n i : Nat} {v : Int} (e0 : decode b pc = .ok (.iastore, 1)) (hc : c < 123) (e3 : ly_kd c = (1, n)) (r : i < n ∧ n < 5000000) (k : mj_W (mj_lv d) b o rt mc ms post (pc + 1) lv st (123, K, zs (mj_u2 A c i v), ρ) uc us) : mj_W (mj_lv d) b o rt mc ms post pc lv (.inl (iZ v) :: .inl (iZ (i : Int)) :: .inr (.inl (some c)) :: st) (123, K, zs A, ρ) uc us := zg_iast L e0 hc e3 (by omega) (by rw [Int.toNat_natCast]; exact k)
theorem zg_zastN (L : Lay K ρ) {c n i : Nat} {v : Int} (e0 : decode b pc = .ok (.bastore, 1)) (hc : c < 123) (e3 : ly_kd c = (2, n)) (r : i < n ∧ n < 5000000) (hv : v = 0 ∨ v = 1) (k : mj_W (mj_lv d) b o rt mc ms post (pc + 1) lv st (123, K, zs (mj_u2 A c i v), ρ) uc us) : mj_W (mj_lv d) b o rt mc ms post pc lv (.inl (iZ v) :: .inl (iZ (i : Int)) :: .inr (.inl (some c)) :: st) (123, K, zs A, ρ) uc us := zg_zast L e0 hc e3 (by omega) hv (by rw [Int.toNat_natCast]; exact k)
/-- a value told anew -/
theorem zv {v w : Int} (e : v = w) (k : mj_W (mj_lv d) b o rt mc ms post pc lv (.inl (iZ w) :: st) (123, K, zs A, ρ) uc us) : mj_W (mj_lv d) b o rt mc ms post pc lv (.inl (iZ v) :: st) (123, K, zs A, ρ) uc us := by rw [e]; exact k
end zgN_rows
theorem cnt_bnd {g : Nat → Int} {b : Int} : ∀ {m : Nat}, (∀ a, a < m → g a ≤ b) → cnt g m ≤ b * m
  | 0, _ => by show (0 : Int) ≤ _; simp
  | m + 1, h => by
    have h1 := cnt_bnd (m := m) (fun a ha => h a (by omega))
    have h2 := h m (by omega)
    show cnt g m + g m ≤ _
    rw [Int.natCast_add, Int.mul_add]
    omega
section sp_ft2
variable {d : Nat} {post : Option mj_V → mj_H → Prop} {K : Nat → Nat × Nat} {ρ : Nat → Nat → Option Nat}
/-- upper and lower ends of the arcs by the turned ones -/
def ulR (A A2 : Nat → Nat → Int) (i : Nat) : Prop := ∀ a, a < i → A2 100 a = (if A 98 a = 1 then A 96 a else A 95 a) ∧ A2 101 a = (if A 98 a = 1 then A 95 a else A 96 a)
set_option maxRecDepth 100000 in
theorem ft_loopC (L : Lay K ρ) {A : Nat → Nat → Int} (hm : 0 ≤ A 93 1 ∧ A 93 1 ≤ 24) (h98 : ∀ a : Nat, (a : Int) < A 93 1 → A 98 a = 0 ∨ A 98 a = 1) {x1 : Int32}
    (k : ∀ A2, eo [100, 101] A A2 → ulR A A2 (A 93 1).toNat → post none (123, K, zs (A2), ρ)) : ∀ (j i : Nat) (A2 : Nat → Nat → Int), (A 93 1).toNat - i < j → i ≤ (A 93 1).toNat → eo [100, 101] A A2 → ulR A A2 i → mj_W (mj_lv d) prog_11_method_11_code 9 0 0 0 post 108 [some (.inr (.inl (some 93))), some (.inl x1), some (.inl (iZ ((i : Int))))] [] (123, K, zs (A2), ρ) 0 0
  | 0, i, _, h, _, _, _ => absurd h (by omega)
  | j + 1, i, A2, h, hi, hE, hI => by
    have e1 : A2 93 1 = A 93 1 := by rw [hE 93 rfl]
    refine mq_iload_n d35_108 rfl rfl ?_
    refine mq_aload_n d35_109 rfl rfl ?_
    refine zg_getIe L (A 93 1) d35_110 rfl rfl (by decide) rfl e1 ?_
    refine zq_icmp_ge (tgt := 182) d35_113 (by decide) (by omega) (by omega) (fun g => ?_) (fun g => ?_)
    · have e : i = (A 93 1).toNat := by omega
      refine zg_retv d35_182 (by decide) ?_
      rw [e] at hI
      exact k A2 hE hI
    · have q := h98 i g
      have next : ∀ A3, eo [100, 101] A A3 → ulR A A3 (i + 1) → mj_W (mj_lv d) prog_11_method_11_code 9 0 0 0 post 176 [some (.inr (.inl (some 93))), some (.inl x1), some (.inl (iZ ((i : Int))))] [] (123, K, zs (A3), ρ) 0 0 := fun A3 hE3 hI3 => by
        refine zq_iinc d35_176 rfl rfl ?_
        refine mq_goto (tgt := 108) d35_179 (by decide) ?_
        exact ft_loopC L hm h98 k j (i + 1) A3 (by omega) (by omega) hE3 hI3
      refine mq_aload_n d35_116 rfl rfl ?_
      refine zg_getR L 100 d35_117 rfl rfl (by decide) rfl (by decide) rfl ?_
      refine mq_iload_n d35_120 rfl rfl ?_
      refine mq_aload_n d35_121 rfl rfl ?_
      refine zg_getR L 98 d35_122 rfl rfl (by decide) rfl (by decide) rfl ?_
      refine mq_iload_n d35_125 rfl rfl ?_
      refine zg_zaldN L d35_126 (by decide) rfl (by omega) ?_
      refine zv (by rw [hE 98 rfl]) ?_
      refine zq_if_eq (tgt := 139) d35_127 (by decide) (by omega) (fun g2 => ?_) (fun g2 => ?_)
      · refine mq_aload_n d35_139 rfl rfl ?_
        refine zg_getR L 95 d35_140 rfl rfl (by decide) rfl (by decide) rfl ?_
        refine mq_iload_n d35_143 rfl rfl ?_
        refine zg_ialdN L d35_144 (by decide) rfl (by omega) ?_
        refine zg_iastN L d35_145 (by decide) rfl (by omega) ?_
        refine mq_aload_n d35_146 rfl rfl ?_
        refine zg_getR L 101 d35_147 rfl rfl (by decide) rfl (by decide) rfl ?_
        refine mq_iload_n d35_150 rfl rfl ?_
        refine mq_aload_n d35_151 rfl rfl ?_
        refine zg_getR L 98 d35_152 rfl rfl (by decide) rfl (by decide) rfl ?_
        refine mq_iload_n d35_155 rfl rfl ?_
        refine zg_zaldN L d35_156 (by decide) rfl (by omega) ?_
        refine zv (by rw [u2_c (by decide), hE 98 rfl]) ?_
        refine zq_if_eq (tgt := 169) d35_157 (by decide) (by omega) (fun g3 => ?_) (fun g3 => ?_)
        · refine mq_aload_n d35_169 rfl rfl ?_
          refine zg_getR L 96 d35_170 rfl rfl (by decide) rfl (by decide) rfl ?_
          refine mq_iload_n d35_173 rfl rfl ?_
          refine zg_ialdN L d35_174 (by decide) rfl (by omega) ?_
          refine zg_iastN L d35_175 (by decide) rfl (by omega) ?_
          refine next _ (eo_u2 rfl (eo_u2 rfl hE)) (fun a hb => ?_)
          rw [u2_at, u2_at, u2_at, u2_at, u2_c (by decide), hE 95 rfl, hE 96 rfl]
          by_cases r : a = i
          · subst r
            simp [g2]
          · have := hI a (by omega)
            simp [r, this]
        · exact absurd g2 g3
      · refine mq_aload_n d35_130 rfl rfl ?_
        refine zg_getR L 96 d35_131 rfl rfl (by decide) rfl (by decide) rfl ?_
        refine mq_iload_n d35_134 rfl rfl ?_
        refine zg_ialdN L d35_135 (by decide) rfl (by omega) ?_
        refine mq_goto (tgt := 145) d35_136 (by decide) ?_
        refine zg_iastN L d35_145 (by decide) rfl (by omega) ?_
        refine mq_aload_n d35_146 rfl rfl ?_
        refine zg_getR L 101 d35_147 rfl rfl (by decide) rfl (by decide) rfl ?_
        refine mq_iload_n d35_150 rfl rfl ?_
        refine mq_aload_n d35_151 rfl rfl ?_
        refine zg_getR L 98 d35_152 rfl rfl (by decide) rfl (by decide) rfl ?_
        refine mq_iload_n d35_155 rfl rfl ?_
        refine zg_zaldN L d35_156 (by decide) rfl (by omega) ?_
        refine zv (by rw [u2_c (by decide), hE 98 rfl]) ?_
        refine zq_if_eq (tgt := 169) d35_157 (by decide) (by omega) (fun g3 => ?_) (fun g3 => ?_)
        · exact absurd g3 g2
        · refine mq_aload_n d35_160 rfl rfl ?_
          refine zg_getR L 95 d35_161 rfl rfl (by decide) rfl (by decide) rfl ?_
          refine mq_iload_n d35_164 rfl rfl ?_
          refine zg_ialdN L d35_165 (by decide) rfl (by omega) ?_
          refine mq_goto (tgt := 175) d35_166 (by decide) ?_
          refine zg_iastN L d35_175 (by decide) rfl (by omega) ?_
          refine next _ (eo_u2 rfl (eo_u2 rfl hE)) (fun a hb => ?_)
          rw [u2_at, u2_at, u2_at, u2_at, u2_c (by decide), hE 95 rfl, hE 96 rfl]
          by_cases r : a = i
          · subst r
            have q1 : A 98 a = 1 := by omega
            simp [q1]
          · have := hI a (by omega)
            simp [r, this]
theorem fl_c {A : Nat → Nat → Int} {c i a : Nat} {v : Int} (h : a ≠ c) : fl A c i v a = A a := by
  funext j
  unfold fl
  rw [if_neg (fun q => h q.1)]
theorem fl_lt {A : Nat → Nat → Int} {c i j : Nat} {v : Int} (h : j < i) : fl A c i v c j = v := by
  unfold fl
  rw [if_pos ⟨rfl, h⟩]
/-- the model's turned arcs, upper and lower ends -/
def tuR (A A2 : Nat → Nat → Int) : Prop := isTurn (A 93 0).toNat (A 93 1).toNat (fun a => (A 95 a).toNat) (fun a => (A 96 a).toNat) (A 97) (A2 98) ∧ ∀ a, a < (A 93 1).toNat → A2 100 a = (if A2 98 a = 1 then A 96 a else A 95 a) ∧ A2 101 a = (if A2 98 a = 1 then A 95 a else A 96 a)
theorem isTurn_01 {n m : Nat} {f t : Nat → Nat} {th x : Nat → Int} (h : isTurn n m f t th x) : is01 x m := fun a ha => by
  obtain ⟨l, _, h2, _⟩ := h
  rw [h2 a ha]
  exact ind01 (m := m) a ha
set_option maxRecDepth 100000 in
theorem s_findTurned (L : Lay K ρ) {A : Nat → Nat → Int} (hn : 0 ≤ A 93 0 ∧ A 93 0 ≤ 12) (hm : 0 ≤ A 93 1 ∧ A 93 1 ≤ 24) (ha : ∀ a : Nat, (a : Int) < A 93 1 → (0 ≤ A 95 a ∧ A 95 a < 12) ∧ (0 ≤ A 96 a ∧ A 96 a < 12) ∧ (A 97 a = 0 ∨ A 97 a = 1)) (hne : ∀ a : Nat, (a : Int) < A 93 1 → A 95 a ≠ A 96 a)
    (k : ∀ A2, eo [98, 100, 101, 102, 103, 104, 105] A A2 → tuR A A2 → post none (123, K, zs (A2), ρ)) : mj_lv (d + 2) m_Mod_findTurned [.inr (.inl (some 93))] (123, K, zs (A), ρ) post := by
  show mj_W (mj_lv (d + 1)) prog_11_method_11_code 9 0 0 0 post 0 [some (.inr (.inl (some 93))), none, none] [] (123, K, zs (A), ρ) 0 0
  refine zq_iconst d35_0 ?_
  refine mq_istore_n d35_1 rfl (Nat.le_of_ble_eq_true rfl) rfl ?_
  have A0 := ft_loopA (d := d + 1) (post := post) (x2 := none) L hm ?_ ((A 93 1).toNat + 1) 0 (by omega) (by omega)
  · rw [fl_0, fl_0] at A0
    exact A0
  obtain ⟨B, hB⟩ : ∃ B, B = fl (fl A 102 (A 93 1).toNat 1) 98 (A 93 1).toNat 0 := ⟨_, rfl⟩
  rw [← hB]
  have eB : eo [98, 102] A B := fun c hc => by
    have h1 : c ≠ 98 := fun q => by rw [q] at hc; exact absurd hc (by decide)
    have h2 : c ≠ 102 := fun q => by rw [q] at hc; exact absurd hc (by decide)
    rw [hB, fl_c h1, fl_c h2]
  have b98 : ∀ a, a < (A 93 1).toNat → B 98 a = 0 := fun a h => by rw [hB, fl_lt h]
  have b102 : ∀ a, a < (A 93 1).toNat → B 102 a = 1 := fun a h => by rw [hB, fl_c (by decide), fl_lt h]
  have e93 := eB 93 rfl
  have e95 := eB 95 rfl
  have e96 := eB 96 rfl
  have e97 := eB 97 rfl
  refine mq_aload_n d35_30 rfl rfl ?_
  refine zg_callV (c := 93) L [] d35_31 rfl rfl ⟨rfl, rfl⟩ rfl ⟨rfl, rfl⟩ ⟨by decide, by decide⟩ (by decide) rfl ?_
  refine s_leastBack L (by rw [e93]; exact hn) (by rw [e93]; exact hm) (fun a h => by rw [e93] at h; rw [e95, e96, e97]; exact ha a h) (fun a h => by rw [e93] at h; rw [e95, e96]; exact hne a h) (fun a h => by rw [e93] at h; rw [b102 a (by omega)]; decide) (fun A2 c h2 hc => ?_)
  have hE2 : eo [103, 104, 105] B A2 := eo_of (fun x y hx => h2 x y (fun q => by rw [q] at hx; exact absurd hx (by decide)) (fun q => by rw [q] at hx; exact absurd hx (by decide)) (fun q => by rw [q] at hx; exact absurd hx (by decide)))
  have hc2 : isMin (wt (A 93 1).toNat (fun a => (A 95 a).toNat) (fun a => (A 96 a).toNat) (A 97) (fun _ => 1)) (full (A 93 0).toNat) c := by
    rw [e93] at hc
    refine isMin_congr (fun _ => rfl) (fun l _ => bc_congr (fun v _ u _ => ?_)) hc
    unfold mW
    rw [e93, e95, e96, e97]
    exact wt_congr (fun a h8 h9 => b102 a h8) v u
  have hcr : 0 ≤ c ∧ c ≤ 24 := by
    obtain ⟨⟨l, hl, e⟩, -⟩ := hc2
    rw [← e, bc_wt hl.1]
    refine ⟨cnt_nonneg (fun a _ => ?_), Int.le_trans (cnt_bnd (b := 1) (fun a _ => ?_)) (by omega)⟩
    · split
      · decide
      · decide
    · split
      · decide
      · decide
  refine mq_istore_n d35_34 rfl (Nat.le_of_ble_eq_true rfl) rfl ?_
  refine zq_iconst d35_35 ?_
  refine mq_istore_n d35_36 rfl (Nat.le_of_ble_eq_true rfl) rfl ?_
  refine ft_loopB L hn hm ha hne hcr (fun A3 x1 x2 h3 ht => ?_) ((A 93 1).toNat + 1) 0 A2 c (by omega) (by omega) (by show c = c - 0; omega) ⟨fun x y a1 a2 a3 a4 a5 => ?_, grd_0 hc2, fun a _ h => ⟨?_, ?_⟩, fun a h => absurd h (by omega), fun a h => absurd h (by omega)⟩
  · have hE3 : eo [98, 102, 103, 104, 105] A A3 := eo_of (fun x y hx => h3 x y (fun q => by rw [q] at hx; exact absurd hx (by decide)) (fun q => by rw [q] at hx; exact absurd hx (by decide)) (fun q => by rw [q] at hx; exact absurd hx (by decide)) (fun q => by rw [q] at hx; exact absurd hx (by decide)) (fun q => by rw [q] at hx; exact absurd hx (by decide)))
    have f93 := hE3 93 rfl
    refine zq_iconst d35_106 ?_
    refine mq_istore_n d35_107 rfl (Nat.le_of_ble_eq_true rfl) rfl ?_
    refine ft_loopC L (by rw [f93]; exact hm) (fun a h => isTurn_01 ht a (by rw [f93] at h; omega)) (fun A4 h4 hu => ?_) ((A3 93 1).toNat + 1) 0 A3 (by omega) (by omega) eo_refl (fun a h => absurd h (by omega))
    refine k A4 (eo_trans (eo_mono (by decide) hE3) (eo_mono (by decide) h4)) ⟨?_, fun a h => ?_⟩
    · rw [h4 98 rfl]
      exact ht
    · have := hu a (by rw [f93]; exact h)
      rw [h4 98 rfl, ← hE3 95 rfl, ← hE3 96 rfl]
      exact this
  · rw [h2 x y a3 a4 a5, eB x (by simp [a1, a2])]
  · rw [hE2 98 rfl]
    exact b98 a h
  · rw [hE2 102 rfl]
    exact b102 a h
end sp_ft2
